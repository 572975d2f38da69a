abbrev rmX5_cheapest : Room := { frames := 0, cells := 0, slots := 0, locals := 0 }
set_option maxHeartbeats 4000000 in
set_option maxRecDepth 100000 in
theorem k_X5_cheapest (l : Launch) {D : va_G} {cI cJ : ClassId} {ad : Nat → Nat} {u : tU} {v : tV} {a2 : Int32} {a3 : Int32}  {r : Int32}  (h : pX5_cheapest u v a2 a3 = some r) : Met l yX5_cheapest wsX5_cheapest rmX5_cheapest (va_Pc [.ref (ad 62), .ref (ad 24), .int a2, .int a3] (xPre D cI cJ (wA cI cJ ad u v))) (QcRead r) 0 0 (fun _ => False) := by
  refine Met.ofW (cc := cX5_cheapest) (maxL := 7) (ret := (some .int)) (by decide) rfl ?_
  intro p e s m args below meth c s₁ B hml hv
  obtain ⟨rfl, hP, hK⟩ := hv
  have hx := B.exec
  have hb := B.bytes
  have hr := B.returns
  have hts := atoms_spec (ws := wsX5_cheapest) B.pre
  have hown : s.vm.findClass RX5 = some m.cls := findClass_of_methodNamed B.named
  have hlocks := B.notSynchronized
  have hin5 : ∀ w ∈ u_ws RX5 TX5 3, w ∈ wsX5_cheapest := fun _ h => List.mem_cons_of_mem _ (List.mem_append_right _ h)
  have hin7 : ∀ w ∈ u_ws RX7 TX7 7, w ∈ wsX5_cheapest := fun _ h => List.mem_cons_of_mem _ (List.mem_append_left _ (List.mem_append_right _ h))
  have hw1 := hts (.fieldLink RX5 9 "InstallDesk$Match" "left" "[I") (List.mem_of_getElem? (i := 1) rfl)
  have hl := lv_entry ([.ref (ad 62), .ref (ad 24), .int a2, .int a3]) (n := 7) (Nat.le_of_ble_eq_true rfl)
  rw [lg_entry_eq]
  generalize (lg_sl ([.ref (ad 62), .ref (ad 24), .int a2, .int a3]) ++ List.replicate (7 - (lg_sl ([.ref (ad 62), .ref (ad 24), .int a2, .int a3])).length) Slot.unset).toArray = ls at hl ⊢
  have hl : lv_has ls 7 [(0, .ref (ad 62)), (1, .ref (ad 24)), (2, .int a2), (3, .int a3)] := hl
  have L7 : ∀ (x2 : Int32) (x3 : Int32) (n : Nat) (x4 : Int32) (x5 : Int32) (ls : Array Slot) (o : Int32), pX5_cheapest_L7 u v x2 x3 n x4 x5 = some o → lv_has ls 7 [(0, .ref (ad 62)), (1, .ref (ad 24)), (2, .int x2), (3, .int x3), (4, .int x4), (5, .int x5)] → (∀ (y4 : Int32) (ls : Array Slot), o = y4 → lv_has ls 7 [(4, .int y4)] → W p l e (headSpec wsX5_cheapest rmX5_cheapest).room s m [Value.ref (ad 62), Value.ref (ad 24), Value.int a2, Value.int a3].toArray below meth c s.heap [] 0 0 (MQ below (QcRead r) [Value.ref (ad 62), Value.ref (ad 24), Value.int a2, Value.int a3].toArray s 0 0 (fun _ => False)) (F0 m 92 ls [])) → W p l e (headSpec wsX5_cheapest rmX5_cheapest).room s m [Value.ref (ad 62), Value.ref (ad 24), Value.int a2, Value.int a3].toArray below meth c s.heap [] 0 0 (MQ below (QcRead r) [Value.ref (ad 62), Value.ref (ad 24), Value.int a2, Value.int a3].toArray s 0 0 (fun _ => False)) (F0 m 7 ls []) := by
    intro x2 x3 n
    induction n with
    | zero => intro x4 x5 ls o h; cases h
    | succ n ih =>
      intro x4 x5 ls o h hl hk
      rw [pX5_cheapest_L7] at h
      refine lv_iload hx hb dX5_cheapest_7 (lv_at hl 5 rfl) ?_
      refine lv_aload_n hx hb dX5_cheapest_9 rfl (lv_at hl 1 rfl) ?_
      refine za_geti (k := 0) hx hb hts hin7 hown hK hP zF_24_0 rfl (Nat.le_of_ble_eq_true rfl) (nw_177 hK.2) dX5_cheapest_10 ?_
      refine lv_icmp_ge (tgt := 92) hx hb dX5_cheapest_13 (by decide) (fun c1 => ?_) (fun c1 => ?_)
      · have h := vz_t c1 h
        cases h
        exact hk x4 ls rfl (lv_sub hl [4] rfl)
      · have h := vz_f c1 h
        refine lv_aload_n hx hb dX5_cheapest_16 rfl (lv_at hl 0 rfl) ?_
        refine za_getr (k := 0) hx hb hts hin5 hown hK hP zF_62_0 rfl (Nat.le_of_ble_eq_true rfl) (Or.inl hw1) dX5_cheapest_17 ?_
        refine lv_iload hx hb dX5_cheapest_20 (lv_at hl 5 rfl) ?_
        obtain ⟨g2, h⟩ := gd_s h
        refine za_ild hx hb hK hP zI_63 g2 dX5_cheapest_22 ?_
        refine lv_if_le (tgt := 52) hx hb dX5_cheapest_23 (by decide) (fun c3 => ?_) (fun c3 => ?_)
        · have h := vz_t c3 h
          refine lv_iconst (v := (0 : Int32)) hx hb dX5_cheapest_52 (by decide) ?_
          refine lv_istore (lv' := [(6, .int (0 : Int32)), (0, .ref (ad 62)), (1, .ref (ad 24)), (2, .int x2), (3, .int x3), (4, .int x4), (5, .int x5)]) hx hb dX5_cheapest_53 hl (by decide) rfl (fun ls hl => ?_)
          refine lv_iload hx hb dX5_cheapest_55 (lv_at hl 0 rfl) ?_
          refine lv_if_eq (tgt := 86) hx hb dX5_cheapest_57 (by decide) (fun c4 => ?_) (fun c4 => ?_)
          rotate_left
          · exact absurd c4 (by decide)
          refine lv_iinc (v := (x5 + 1)) (lv' := [(5, .int (x5 + 1)), (6, .int (0 : Int32)), (0, .ref (ad 62)), (1, .ref (ad 24)), (2, .int x2), (3, .int x3), (4, .int x4)]) hx hb dX5_cheapest_86 hl (k := 6) rfl rfl (by decide) rfl (fun ls hl => ?_)
          refine lv_goto (tgt := 7) hx hb dX5_cheapest_89 (by decide) ?_
          exact ih x4 (x5 + 1) ls o h (lv_sub hl [2, 3, 4, 5, 6, 0] rfl) hk
        · have h := vz_f c3 h
          refine lv_aload_n hx hb dX5_cheapest_26 rfl (lv_at hl 1 rfl) ?_
          refine za_getr (k := 1) hx hb hts hin7 hown hK hP zF_24_1 rfl (Nat.le_of_ble_eq_true rfl) (nw_180 hK.2) dX5_cheapest_27 ?_
          refine lv_iload hx hb dX5_cheapest_30 (lv_at hl 5 rfl) ?_
          obtain ⟨g5, h⟩ := gd_s h
          refine za_ild hx hb hK hP zI_25 g5 dX5_cheapest_32 ?_
          refine lv_iload_n hx hb dX5_cheapest_33 rfl (lv_at hl 2 rfl) ?_
          refine lv_icmp_ne (tgt := 52) hx hb dX5_cheapest_34 (by decide) (fun c6 => ?_) (fun c6 => ?_)
          · have h := vz_f c6 h
            refine lv_iconst (v := (0 : Int32)) hx hb dX5_cheapest_52 (by decide) ?_
            refine lv_istore (lv' := [(6, .int (0 : Int32)), (0, .ref (ad 62)), (1, .ref (ad 24)), (2, .int x2), (3, .int x3), (4, .int x4), (5, .int x5)]) hx hb dX5_cheapest_53 hl (by decide) rfl (fun ls hl => ?_)
            refine lv_iload hx hb dX5_cheapest_55 (lv_at hl 0 rfl) ?_
            refine lv_if_eq (tgt := 86) hx hb dX5_cheapest_57 (by decide) (fun c7 => ?_) (fun c7 => ?_)
            rotate_left
            · exact absurd c7 (by decide)
            refine lv_iinc (v := (x5 + 1)) (lv' := [(5, .int (x5 + 1)), (6, .int (0 : Int32)), (0, .ref (ad 62)), (1, .ref (ad 24)), (2, .int x2), (3, .int x3), (4, .int x4)]) hx hb dX5_cheapest_86 hl (k := 6) rfl rfl (by decide) rfl (fun ls hl => ?_)
            refine lv_goto (tgt := 7) hx hb dX5_cheapest_89 (by decide) ?_
            exact ih x4 (x5 + 1) ls o h (lv_sub hl [2, 3, 4, 5, 6, 0] rfl) hk
          · have h := vz_t c6 h
            refine lv_aload_n hx hb dX5_cheapest_37 rfl (lv_at hl 1 rfl) ?_
            refine za_getr (k := 2) hx hb hts hin7 hown hK hP zF_24_2 rfl (Nat.le_of_ble_eq_true rfl) (nw_183 hK.2) dX5_cheapest_38 ?_
            refine lv_iload hx hb dX5_cheapest_41 (lv_at hl 5 rfl) ?_
            obtain ⟨g8, h⟩ := gd_s h
            refine za_ild hx hb hK hP zI_26 g8 dX5_cheapest_43 ?_
            refine lv_iload_n hx hb dX5_cheapest_44 rfl (lv_at hl 3 rfl) ?_
            refine lv_icmp_lt (tgt := 52) hx hb dX5_cheapest_45 (by decide) (fun c9 => ?_) (fun c9 => ?_)
            · have h := vz_t c9 h
              refine lv_iconst (v := (0 : Int32)) hx hb dX5_cheapest_52 (by decide) ?_
              refine lv_istore (lv' := [(6, .int (0 : Int32)), (0, .ref (ad 62)), (1, .ref (ad 24)), (2, .int x2), (3, .int x3), (4, .int x4), (5, .int x5)]) hx hb dX5_cheapest_53 hl (by decide) rfl (fun ls hl => ?_)
              refine lv_iload hx hb dX5_cheapest_55 (lv_at hl 0 rfl) ?_
              refine lv_if_eq (tgt := 86) hx hb dX5_cheapest_57 (by decide) (fun c10 => ?_) (fun c10 => ?_)
              rotate_left
              · exact absurd c10 (by decide)
              refine lv_iinc (v := (x5 + 1)) (lv' := [(5, .int (x5 + 1)), (6, .int (0 : Int32)), (0, .ref (ad 62)), (1, .ref (ad 24)), (2, .int x2), (3, .int x3), (4, .int x4)]) hx hb dX5_cheapest_86 hl (k := 6) rfl rfl (by decide) rfl (fun ls hl => ?_)
              refine lv_goto (tgt := 7) hx hb dX5_cheapest_89 (by decide) ?_
              exact ih x4 (x5 + 1) ls o h (lv_sub hl [2, 3, 4, 5, 6, 0] rfl) hk
            · have h := vz_f c9 h
              refine lv_iconst (v := (1 : Int32)) hx hb dX5_cheapest_48 (by decide) ?_
              refine lv_goto (tgt := 53) hx hb dX5_cheapest_49 (by decide) ?_
              refine lv_istore (lv' := [(6, .int (1 : Int32)), (0, .ref (ad 62)), (1, .ref (ad 24)), (2, .int x2), (3, .int x3), (4, .int x4), (5, .int x5)]) hx hb dX5_cheapest_53 hl (by decide) rfl (fun ls hl => ?_)
              refine lv_iload hx hb dX5_cheapest_55 (lv_at hl 0 rfl) ?_
              refine lv_if_eq (tgt := 86) hx hb dX5_cheapest_57 (by decide) (fun c11 => ?_) (fun c11 => ?_)
              · exact absurd c11 (by decide)
              refine lv_iload hx hb dX5_cheapest_60 (lv_at hl 5 rfl) ?_
              refine lv_if_lt (tgt := 82) hx hb dX5_cheapest_62 (by decide) (fun c12 => ?_) (fun c12 => ?_)
              · have h := vz_t c12 h
                refine lv_iload hx hb dX5_cheapest_82 (lv_at hl 6 rfl) ?_
                refine lv_istore (lv' := [(4, .int x5), (6, .int (1 : Int32)), (0, .ref (ad 62)), (1, .ref (ad 24)), (2, .int x2), (3, .int x3), (5, .int x5)]) hx hb dX5_cheapest_84 hl (by decide) rfl (fun ls hl => ?_)
                refine lv_iinc (v := (x5 + 1)) (lv' := [(5, .int (x5 + 1)), (4, .int x5), (6, .int (1 : Int32)), (0, .ref (ad 62)), (1, .ref (ad 24)), (2, .int x2), (3, .int x3)]) hx hb dX5_cheapest_86 hl (k := 6) rfl rfl (by decide) rfl (fun ls hl => ?_)
                refine lv_goto (tgt := 7) hx hb dX5_cheapest_89 (by decide) ?_
                exact ih x5 (x5 + 1) ls o h (lv_sub hl [3, 4, 5, 6, 1, 0] rfl) hk
              · have h := vz_f c12 h
                refine lv_aload_n hx hb dX5_cheapest_65 rfl (lv_at hl 2 rfl) ?_
                refine za_getr (k := 4) hx hb hts hin7 hown hK hP zF_24_4 rfl (Nat.le_of_ble_eq_true rfl) (nw_188 hK.2) dX5_cheapest_66 ?_
                refine lv_iload hx hb dX5_cheapest_69 (lv_at hl 6 rfl) ?_
                obtain ⟨g13, h⟩ := gd_s h
                refine za_ild hx hb hK hP zI_28 g13 dX5_cheapest_71 ?_
                refine lv_aload_n hx hb dX5_cheapest_72 rfl (lv_at hl 2 rfl) ?_
                refine za_getr (k := 4) hx hb hts hin7 hown hK hP zF_24_4 rfl (Nat.le_of_ble_eq_true rfl) (nw_188 hK.2) dX5_cheapest_73 ?_
                refine lv_iload hx hb dX5_cheapest_76 (lv_at hl 5 rfl) ?_
                obtain ⟨g14, h⟩ := gd_s h
                refine za_ild hx hb hK hP zI_28 g14 dX5_cheapest_78 ?_
                refine lv_icmp_ge (tgt := 86) hx hb dX5_cheapest_79 (by decide) (fun c15 => ?_) (fun c15 => ?_)
                · have h := vz_t c15 h
                  refine lv_iinc (v := (x5 + 1)) (lv' := [(5, .int (x5 + 1)), (6, .int (1 : Int32)), (0, .ref (ad 62)), (1, .ref (ad 24)), (2, .int x2), (3, .int x3), (4, .int x4)]) hx hb dX5_cheapest_86 hl (k := 6) rfl rfl (by decide) rfl (fun ls hl => ?_)
                  refine lv_goto (tgt := 7) hx hb dX5_cheapest_89 (by decide) ?_
                  exact ih x4 (x5 + 1) ls o h (lv_sub hl [2, 3, 4, 5, 6, 0] rfl) hk
                · have h := vz_f c15 h
                  refine lv_iload hx hb dX5_cheapest_82 (lv_at hl 6 rfl) ?_
                  refine lv_istore (lv' := [(4, .int x5), (6, .int (1 : Int32)), (0, .ref (ad 62)), (1, .ref (ad 24)), (2, .int x2), (3, .int x3), (5, .int x5)]) hx hb dX5_cheapest_84 hl (by decide) rfl (fun ls hl => ?_)
                  refine lv_iinc (v := (x5 + 1)) (lv' := [(5, .int (x5 + 1)), (4, .int x5), (6, .int (1 : Int32)), (0, .ref (ad 62)), (1, .ref (ad 24)), (2, .int x2), (3, .int x3)]) hx hb dX5_cheapest_86 hl (k := 6) rfl rfl (by decide) rfl (fun ls hl => ?_)
                  refine lv_goto (tgt := 7) hx hb dX5_cheapest_89 (by decide) ?_
                  exact ih x5 (x5 + 1) ls o h (lv_sub hl [3, 4, 5, 6, 1, 0] rfl) hk
  rw [pX5_cheapest] at h
  refine lv_bipush (v := (-2 : Int32)) hx hb dX5_cheapest_0 (by decide) ?_
  refine lv_istore (lv' := [(4, .int (-2 : Int32)), (0, .ref (ad 62)), (1, .ref (ad 24)), (2, .int a2), (3, .int a3)]) hx hb dX5_cheapest_2 hl (by decide) rfl (fun ls hl => ?_)
  refine lv_iconst (v := (0 : Int32)) hx hb dX5_cheapest_4 (by decide) ?_
  refine lv_istore (lv' := [(5, .int (0 : Int32)), (4, .int (-2 : Int32)), (0, .ref (ad 62)), (1, .ref (ad 24)), (2, .int a2), (3, .int a3)]) hx hb dX5_cheapest_5 hl (by decide) rfl (fun ls hl => ?_)
  obtain ⟨o16, hL17, h⟩ := vz_b h
  refine L7 a2 a3 fuel (-2 : Int32) (0 : Int32) ls o16 hL17 (lv_sub hl [2, 3, 4, 5, 1, 0] rfl) (fun y19 ls e18 hl => ?_)
  try rw [e18] at h
  try dsimp only at h
  refine lv_iload hx hb dX5_cheapest_92 (lv_at hl 0 rfl) ?_
  cases h
  exact W.iret hx hb hr (fun t ht _ => ⟨rfl, ht⟩) (fun q hq => absurd hq List.not_mem_nil) dX5_cheapest_94
abbrev rmX5_serve : Room := { frames := 1, cells := 0, slots := 0, locals := 26 }
set_option maxHeartbeats 4000000 in
set_option maxRecDepth 100000 in
theorem k_X5_serve (l : Launch) {D : va_G} {cI cJ : ClassId} {ad : Nat → Nat} {u : tU} {v : tV} {A : Nat → Prop} (hD : zD A cI cJ ad) {a2 : Int32} {a3 : Int32}  {uz : tU} {vz : tV} (h : pX5_serve u v a2 a3 = some (uz, vz)) : Met l yX5_serve wsX5_serve rmX5_serve (va_Pc [.ref (ad 62), .ref (ad 24), .int a2, .int a3] (xPre D cI cJ (wA cI cJ ad u v))) (xWv D cI cJ ad A uz vz) 0 0 A := by
  refine Met.ofW (cc := cX5_serve) (maxL := 5) (ret := none) (by decide) rfl ?_
  intro p e s m args below meth c s₁ B hml hv
  obtain ⟨rfl, hP, hK⟩ := hv
  have hx := B.exec
  have hb := B.bytes
  have hr := B.returns
  have hts := atoms_spec (ws := wsX5_serve) B.pre
  have hown : s.vm.findClass RX5 = some m.cls := findClass_of_methodNamed B.named
  have hlocks := B.notSynchronized
  have hS : va_S A s.heap s.heap [] := va_S.rf
  have hin5 : ∀ w ∈ u_ws RX5 TX5 3, w ∈ wsX5_serve := fun _ h => List.mem_cons_of_mem _ (List.mem_append_left _ (List.mem_append_right _ h))
  have hin7 : ∀ w ∈ u_ws RX7 TX7 7, w ∈ wsX5_serve := fun _ h => List.mem_cons_of_mem _ (List.mem_append_right _ h)
  have hw1 := hts (.fieldLink RX5 15 "InstallDesk$Match" "lacking" "I") (List.mem_of_getElem? (i := 1) rfl)
  have hw2 := hts (.fieldLink RX5 9 "InstallDesk$Match" "left" "[I") (List.mem_of_getElem? (i := 2) rfl)
  have hw3 := hts (.fieldLink RX5 19 "InstallDesk$Match" "paid" "I") (List.mem_of_getElem? (i := 3) rfl)
  have hl := lv_entry ([.ref (ad 62), .ref (ad 24), .int a2, .int a3]) (n := 5) (Nat.le_of_ble_eq_true rfl)
  rw [lg_entry_eq]
  generalize (lg_sl ([.ref (ad 62), .ref (ad 24), .int a2, .int a3]) ++ List.replicate (5 - (lg_sl ([.ref (ad 62), .ref (ad 24), .int a2, .int a3])).length) Slot.unset).toArray = ls at hl ⊢
  have hl : lv_has ls 5 [(0, .ref (ad 62)), (1, .ref (ad 24)), (2, .int a2), (3, .int a3)] := hl
  rw [pX5_serve] at h
  refine lv_aload_n hx hb dX5_serve_0 rfl (lv_at hl 0 rfl) ?_
  refine lv_aload_n hx hb dX5_serve_1 rfl (lv_at hl 1 rfl) ?_
  refine lv_iload_n hx hb dX5_serve_2 rfl (lv_at hl 2 rfl) ?_
  refine lv_iload_n hx hb dX5_serve_3 rfl (lv_at hl 3 rfl) ?_
  obtain ⟨r2, hc1, h⟩ := vz_b h
  refine za_callR (va_runV (As := [.ref (ad 24), .int a2, .int a3]) (rest := []) ⟨hx, hb, hml, hown, hts⟩ (k_X5_cheapest l (D := D) (cI := cI) (cJ := cJ) (ad := ad) hc1) (cwV 3 hts gX5_serve_X5_cheapest rfl rfl rfl ⟨rfl, zd_X5_cheapest⟩ ⟨Nat.le_of_ble_eq_true rfl, Nat.le_of_ble_eq_true rfl⟩) (xPreV (ci := 5) hK hP rfl zO_62) rfl rfl hl.1 rfl (lv_room (Nat.le_of_ble_eq_true rfl)) dX5_serve_4 ⟨Nat.zero_le _, Nat.zero_le _⟩) ?_
  refine lv_istore (lv' := [(4, .int r2), (0, .ref (ad 62)), (1, .ref (ad 24)), (2, .int a2), (3, .int a3)]) hx hb dX5_serve_7 hl (by decide) rfl (fun ls hl => ?_)
  refine lv_iload hx hb dX5_serve_9 (lv_at hl 0 rfl) ?_
  refine lv_if_ge (tgt := 25) hx hb dX5_serve_11 (by decide) (fun c3 => ?_) (fun c3 => ?_)
  · have h := vz_t c3 h
    refine lv_aload_n hx hb dX5_serve_25 rfl (lv_at hl 1 rfl) ?_
    refine za_getr (k := 0) hx hb hts hin5 hown hK hP zF_62_0 rfl (Nat.le_of_ble_eq_true rfl) (Or.inl hw2) dX5_serve_26 ?_
    refine lv_iload hx hb dX5_serve_29 (lv_at hl 0 rfl) ?_
    refine lv_dup2_11 hx hb dX5_serve_31 rfl rfl ?_
    obtain ⟨g4, h⟩ := gd_s h
    refine za_ild hx hb hK hP zI_63 g4 dX5_serve_32 ?_
    refine lv_iconst (v := (1 : Int32)) hx hb dX5_serve_33 (by decide) ?_
    refine lv_isub hx hb dX5_serve_34 ?_
    obtain ⟨g5, h⟩ := gd_s h
    refine za_ist hx hb hK hP hD hS zI_63 g5 dX5_serve_35 (fun H locs hP hS => ?_)
    refine lv_aload_n hx hb dX5_serve_36 rfl (lv_at hl 1 rfl) ?_
    refine lv_dup hx hb dX5_serve_37 rfl ?_
    refine za_geti (k := 2) hx hb hts hin5 hown hK hP zF_62_2 rfl (Nat.le_of_ble_eq_true rfl) (Or.inl hw3) dX5_serve_38 ?_
    refine lv_aload_n hx hb dX5_serve_41 rfl (lv_at hl 2 rfl) ?_
    refine za_getr (k := 4) hx hb hts hin7 hown hK hP zF_24_4 rfl (Nat.le_of_ble_eq_true rfl) (nw_188 hK.2) dX5_serve_42 ?_
    refine lv_iload hx hb dX5_serve_45 (lv_at hl 0 rfl) ?_
    obtain ⟨g6, h⟩ := gd_s h
    refine za_ild hx hb hK hP zI_28 g6 dX5_serve_47 ?_
    refine lv_iadd hx hb dX5_serve_48 ?_
    refine za_puti (k := 2) hx hb hts hin5 tyX5 tyX5_ok nmX5 hown hK hP hD hS zF_62_2 rfl (Nat.le_of_ble_eq_true rfl) (Or.inl hw3) rfl rfl rfl dX5_serve_49 (fun H locs hP hS => ?_)
    cases h
    exact W.vret hx hb hr (fun t ht _ => ⟨rfl, by rw [ht]; exact hP, hS.F ht⟩) hS.2.2 dX5_serve_52
  · have h := vz_f c3 h
    refine lv_aload_n hx hb dX5_serve_14 rfl (lv_at hl 1 rfl) ?_
    refine lv_dup hx hb dX5_serve_15 rfl ?_
    refine za_geti (k := 1) hx hb hts hin5 hown hK hP zF_62_1 rfl (Nat.le_of_ble_eq_true rfl) (Or.inl hw1) dX5_serve_16 ?_
    refine lv_iconst (v := (1 : Int32)) hx hb dX5_serve_19 (by decide) ?_
    refine lv_iadd hx hb dX5_serve_20 ?_
    refine za_puti (k := 1) hx hb hts hin5 tyX5 tyX5_ok nmX5 hown hK hP hD hS zF_62_1 rfl (Nat.le_of_ble_eq_true rfl) (Or.inl hw1) rfl rfl rfl dX5_serve_21 (fun H locs hP hS => ?_)
    cases h
    exact W.vret hx hb hr (fun t ht _ => ⟨rfl, by rw [ht]; exact hP, hS.F ht⟩) hS.2.2 dX5_serve_24
abbrev rmX6_isFree : Room := { frames := 0, cells := 0, slots := 0, locals := 0 }
set_option maxHeartbeats 4000000 in
set_option maxRecDepth 100000 in
theorem k_X6_isFree (l : Launch) {D : va_G} {cI cJ : ClassId} {ad : Nat → Nat} {u : tU} {v : tV} {a1 : Int32}  {r : Int32}  (h : pX6_isFree u v a1 = some r) : Met l yX6_isFree wsX6_isFree rmX6_isFree (va_Pc [.ref (ad 3), .int a1] (xPre D cI cJ (wA cI cJ ad u v))) (QcRead r) 0 0 (fun _ => False) := by
  refine Met.ofW (cc := cX6_isFree) (maxL := 2) (ret := (some .boolean)) (by decide) rfl ?_
  intro p e s m args below meth c s₁ B hml hv
  obtain ⟨rfl, hP, hK⟩ := hv
  have hx := B.exec
  have hb := B.bytes
  have hr := B.returns
  have hts := atoms_spec (ws := wsX6_isFree) B.pre
  have hown : s.vm.findClass RX6 = some m.cls := findClass_of_methodNamed B.named
  have hlocks := B.notSynchronized
  have hin6 : ∀ w ∈ u_ws RX6 TX6 4, w ∈ wsX6_isFree := fun _ h => List.mem_cons_of_mem _ (List.mem_append_right _ h)
  have hw1 := hts (.fieldLink RX6 9 "InstallDesk$Products" "kinds" "[I") (List.mem_of_getElem? (i := 1) rfl)
  have hl := lv_entry ([.ref (ad 3), .int a1]) (n := 2) (Nat.le_of_ble_eq_true rfl)
  rw [lg_entry_eq]
  generalize (lg_sl ([.ref (ad 3), .int a1]) ++ List.replicate (2 - (lg_sl ([.ref (ad 3), .int a1])).length) Slot.unset).toArray = ls at hl ⊢
  have hl : lv_has ls 2 [(0, .ref (ad 3)), (1, .int a1)] := hl
  rw [pX6_isFree] at h
  refine lv_aload_n hx hb dX6_isFree_0 rfl (lv_at hl 0 rfl) ?_
  refine za_getr (k := 1) hx hb hts hin6 hown hK hP zF_3_1 rfl (Nat.le_of_ble_eq_true rfl) (Or.inl hw1) dX6_isFree_1 ?_
  refine lv_iload_n hx hb dX6_isFree_4 rfl (lv_at hl 1 rfl) ?_
  obtain ⟨g1, h⟩ := gd_s h
  refine za_ild hx hb hK hP zI_4 g1 dX6_isFree_5 ?_
  refine lv_iconst (v := (2 : Int32)) hx hb dX6_isFree_6 (by decide) ?_
  refine lv_icmp_ne (tgt := 14) hx hb dX6_isFree_7 (by decide) (fun c2 => ?_) (fun c2 => ?_)
  · have h := vz_f c2 h
    refine lv_iconst (v := (0 : Int32)) hx hb dX6_isFree_14 (by decide) ?_
    cases h
    exact W.zret hx hb hr nb0 (fun t ht _ => ⟨rfl, ht⟩) (fun q hq => absurd hq List.not_mem_nil) dX6_isFree_15
  · have h := vz_t c2 h
    refine lv_iconst (v := (1 : Int32)) hx hb dX6_isFree_10 (by decide) ?_
    refine lv_goto (tgt := 15) hx hb dX6_isFree_11 (by decide) ?_
    cases h
    exact W.zret hx hb hr nb1 (fun t ht _ => ⟨rfl, ht⟩) (fun q hq => absurd hq List.not_mem_nil) dX6_isFree_15
abbrev rmX5_serveProduct : Room := { frames := 2, cells := 0, slots := 0, locals := 50 }
set_option maxHeartbeats 4000000 in
set_option maxRecDepth 100000 in
theorem k_X5_serveProduct (l : Launch) {D : va_G} {cI cJ : ClassId} {ad : Nat → Nat} {u : tU} {v : tV} {A : Nat → Prop} (hD : zD A cI cJ ad) {a3 : Int32}  {uz : tU} {vz : tV} (h : pX5_serveProduct u v a3 = some (uz, vz)) : Met l yX5_serveProduct wsX5_serveProduct rmX5_serveProduct (va_Pc [.ref (ad 62), .ref (ad 2), .ref (ad 60), .int a3] (xPre D cI cJ (wA cI cJ ad u v))) (xWv D cI cJ ad A uz vz) 0 0 A := by
  refine Met.ofW (cc := cX5_serveProduct) (maxL := 6) (ret := none) (by decide) rfl ?_
  intro p e s m args below meth c s₁ B hml hv
  obtain ⟨rfl, hP, hK⟩ := hv
  have hx := B.exec
  have hb := B.bytes
  have hr := B.returns
  have hts := atoms_spec (ws := wsX5_serveProduct) B.pre
  have hown : s.vm.findClass RX5 = some m.cls := findClass_of_methodNamed B.named
  have hlocks := B.notSynchronized
  have hS : va_S A s.heap s.heap [] := va_S.rf
  have hin0 : ∀ w ∈ u_ws RX0 TX0 8, w ∈ wsX5_serveProduct := fun _ h => List.mem_cons_of_mem _ (List.mem_append_left _ (List.mem_append_left _ (List.mem_append_left _ (List.mem_append_left _ (List.mem_append_left _ (List.mem_append_right _ h))))))
  have hin3 : ∀ w ∈ u_ws RX3 TX3 3, w ∈ wsX5_serveProduct := fun _ h => List.mem_cons_of_mem _ (List.mem_append_left _ (List.mem_append_left _ (List.mem_append_left _ (List.mem_append_left _ (List.mem_append_right _ h)))))
  have hw1 := hts (.instanceMethod yX6_isFree) (List.mem_of_getElem? (i := 1) rfl)
  have hw2 := hts (.initialized RX6) (List.mem_of_getElem? (i := 2) rfl)
  have hw3 := hts (.selects RX6 yX6_isFree yX6_isFree) (List.mem_of_getElem? (i := 3) rfl)
  have hw6 := hts (.instanceMethod yX2_versionAt) (List.mem_of_getElem? (i := 6) rfl)
  have hw7 := hts (.initialized RX2) (List.mem_of_getElem? (i := 7) rfl)
  have hw8 := hts (.selects RX2 yX2_versionAt yX2_versionAt) (List.mem_of_getElem? (i := 8) rfl)
  have hl := lv_entry ([.ref (ad 62), .ref (ad 2), .ref (ad 60), .int a3]) (n := 6) (Nat.le_of_ble_eq_true rfl)
  rw [lg_entry_eq]
  generalize (lg_sl ([.ref (ad 62), .ref (ad 2), .ref (ad 60), .int a3]) ++ List.replicate (6 - (lg_sl ([.ref (ad 62), .ref (ad 2), .ref (ad 60), .int a3])).length) Slot.unset).toArray = ls at hl ⊢
  have hl : lv_has ls 6 [(0, .ref (ad 62)), (1, .ref (ad 2)), (2, .ref (ad 60)), (3, .int a3)] := hl
  have L25 : ∀ (x3 : Int32) (x4 : Int32) (n : Nat) (x5 : Int32) (u : tU) (v : tV) (H : Heap) (locs : List Loc) (ls : Array Slot) (o : tU × tV), pX5_serveProduct_L25 x3 x4 n x5 u v = some o → va_P D vwCl (wA cI cJ ad u v) H → va_S A s.heap H locs → lv_has ls 6 [(0, .ref (ad 62)), (1, .ref (ad 2)), (2, .ref (ad 60)), (3, .int x3), (4, .int x4), (5, .int x5)] → (∀ (u' : tU) (v' : tV) (H : Heap) (locs : List Loc) (ls : Array Slot), o = (u', v') → va_P D vwCl (wA cI cJ ad u' v') H → va_S A s.heap H locs → lv_has ls 6 [(0, .ref (ad 62)), (1, .ref (ad 2)), (2, .ref (ad 60)), (3, .int x3), (4, .int x4)] → W p l e (headSpec wsX5_serveProduct rmX5_serveProduct).room s m [Value.ref (ad 62), Value.ref (ad 2), Value.ref (ad 60), Value.int a3].toArray below meth c H locs 0 0 (MQ below (xWv D cI cJ ad A uz vz) [Value.ref (ad 62), Value.ref (ad 2), Value.ref (ad 60), Value.int a3].toArray s 0 0 A) (F0 m 66 ls [])) → W p l e (headSpec wsX5_serveProduct rmX5_serveProduct).room s m [Value.ref (ad 62), Value.ref (ad 2), Value.ref (ad 60), Value.int a3].toArray below meth c H locs 0 0 (MQ below (xWv D cI cJ ad A uz vz) [Value.ref (ad 62), Value.ref (ad 2), Value.ref (ad 60), Value.int a3].toArray s 0 0 A) (F0 m 25 ls []) := by
    intro x3 x4 n
    induction n with
    | zero => intro x5 u v H locs ls o h; cases h
    | succ n ih =>
      intro x5 u v H locs ls o h hP hS hl hk
      rw [pX5_serveProduct_L25] at h
      refine lv_iload hx hb dX5_serveProduct_25 (lv_at hl 5 rfl) ?_
      refine lv_aload_n hx hb dX5_serveProduct_27 rfl (lv_at hl 1 rfl) ?_
      refine za_getr (k := 2) hx hb hts hin0 hown hK hP zF_2_2 rfl (Nat.le_of_ble_eq_true rfl) (nw_216 hK.2) dX5_serveProduct_28 ?_
      refine za_geti (k := 0) hx hb hts hin3 hown hK hP zF_11_0 rfl (Nat.le_of_ble_eq_true rfl) (nw_104 hK.2) dX5_serveProduct_31 ?_
      refine lv_icmp_ge (tgt := 66) hx hb dX5_serveProduct_34 (by decide) (fun c1 => ?_) (fun c1 => ?_)
      · have h := vz_t c1 h
        cases h
        exact hk u v _ _ ls rfl hP hS (lv_sub hl [0, 1, 2, 3, 4] rfl)
      · have h := vz_f c1 h
        refine lv_aload_n hx hb dX5_serveProduct_37 rfl (lv_at hl 2 rfl) ?_
        refine lv_iload hx hb dX5_serveProduct_38 (lv_at hl 5 rfl) ?_
        refine lv_iload_n hx hb dX5_serveProduct_40 rfl (lv_at hl 3 rfl) ?_
        obtain ⟨r3, hc2, h⟩ := vz_b h
        refine za_callR (va_runVN (As := [.int x5, .int x3]) (rest := []) ⟨hx, hb, hml, hown, hts⟩ (k_X2_versionAt l (D := D) (cI := cI) (cJ := cJ) (ad := ad) hc2) ⟨va_cnB 2 hts gX5_serveProduct_X2_versionAt_n64 rfl rfl rfl (nw_636 hK.2) hw7 zd_X2_versionAt ⟨Nat.le_of_ble_eq_true rfl, Nat.le_of_ble_eq_true rfl⟩, hw6, hw8⟩ (xPreV (ci := 2) hK hP rfl zO_60) rfl rfl hl.1 rfl (lv_room (Nat.le_of_ble_eq_true rfl)) dX5_serveProduct_41 ⟨Nat.zero_le _, Nat.zero_le _⟩) ?_
        refine lv_iload hx hb dX5_serveProduct_44 (lv_at hl 4 rfl) ?_
        refine lv_icmp_ne (tgt := 60) hx hb dX5_serveProduct_46 (by decide) (fun c4 => ?_) (fun c4 => ?_)
        · have h := vz_f c4 h
          refine lv_iinc (v := (x5 + 1)) (lv' := [(5, .int (x5 + 1)), (0, .ref (ad 62)), (1, .ref (ad 2)), (2, .ref (ad 60)), (3, .int x3), (4, .int x4)]) hx hb dX5_serveProduct_60 hl (k := 5) rfl rfl (by decide) rfl (fun ls hl => ?_)
          refine lv_goto (tgt := 25) hx hb dX5_serveProduct_63 (by decide) ?_
          exact ih (x5 + 1) u v _ _ ls o h hP hS (lv_sub hl [1, 2, 3, 4, 5, 0] rfl) hk
        · have h := vz_t c4 h
          refine lv_aload_n hx hb dX5_serveProduct_49 rfl (lv_at hl 0 rfl) ?_
          refine lv_aload_n hx hb dX5_serveProduct_50 rfl (lv_at hl 1 rfl) ?_
          refine za_getr (k := 5) hx hb hts hin0 hown hK hP zF_2_5 rfl (Nat.le_of_ble_eq_true rfl) (nw_225 hK.2) dX5_serveProduct_51 ?_
          refine lv_iload_n hx hb dX5_serveProduct_54 rfl (lv_at hl 3 rfl) ?_
          refine lv_iload hx hb dX5_serveProduct_55 (lv_at hl 4 rfl) ?_
          obtain ⟨⟨u6, v7⟩, hc5, h⟩ := vz_b h
          try dsimp only at h
          refine za_callWv (va_runV (As := [.ref (ad 24), .int x3, .int x4]) (rest := []) ⟨hx, hb, hml, hown, hts⟩ (k_X5_serve l (D := D) (cI := cI) (cJ := cJ) (ad := ad) hD hc5) (cwV 3 hts gX5_serveProduct_X5_serve rfl rfl rfl ⟨rfl, zd_X5_serve⟩ ⟨Nat.le_of_ble_eq_true rfl, Nat.le_of_ble_eq_true rfl⟩) (xPreV (ci := 5) hK hP rfl zO_62) rfl rfl hl.1 rfl (lv_room (Nat.le_of_ble_eq_true rfl)) dX5_serveProduct_57 ⟨Nat.zero_le _, Nat.zero_le _⟩) hS (fun H locs hP hS => ?_)
          refine lv_iinc (v := (x5 + 1)) (lv' := [(5, .int (x5 + 1)), (0, .ref (ad 62)), (1, .ref (ad 2)), (2, .ref (ad 60)), (3, .int x3), (4, .int x4)]) hx hb dX5_serveProduct_60 hl (k := 5) rfl rfl (by decide) rfl (fun ls hl => ?_)
          refine lv_goto (tgt := 25) hx hb dX5_serveProduct_63 (by decide) ?_
          exact ih (x5 + 1) u6 v7 _ _ ls o h hP hS (lv_sub hl [1, 2, 3, 4, 5, 0] rfl) hk
  have L16 : ∀ (x3 : Int32) (n : Nat) (x4 : Int32) (u : tU) (v : tV) (H : Heap) (locs : List Loc) (ls : Array Slot) (o : tU × tV), pX5_serveProduct_L16 x3 n x4 u v = some o → va_P D vwCl (wA cI cJ ad u v) H → va_S A s.heap H locs → lv_has ls 6 [(0, .ref (ad 62)), (1, .ref (ad 2)), (2, .ref (ad 60)), (3, .int x3), (4, .int x4)] → (∀ (u' : tU) (v' : tV) (H : Heap) (locs : List Loc) (ls : Array Slot), o = (u', v') → va_P D vwCl (wA cI cJ ad u' v') H → va_S A s.heap H locs → lv_has ls 6 [] → W p l e (headSpec wsX5_serveProduct rmX5_serveProduct).room s m [Value.ref (ad 62), Value.ref (ad 2), Value.ref (ad 60), Value.int a3].toArray below meth c H locs 0 0 (MQ below (xWv D cI cJ ad A uz vz) [Value.ref (ad 62), Value.ref (ad 2), Value.ref (ad 60), Value.int a3].toArray s 0 0 A) (F0 m 72 ls [])) → W p l e (headSpec wsX5_serveProduct rmX5_serveProduct).room s m [Value.ref (ad 62), Value.ref (ad 2), Value.ref (ad 60), Value.int a3].toArray below meth c H locs 0 0 (MQ below (xWv D cI cJ ad A uz vz) [Value.ref (ad 62), Value.ref (ad 2), Value.ref (ad 60), Value.int a3].toArray s 0 0 A) (F0 m 16 ls []) := by
    intro x3 n
    induction n with
    | zero => intro x4 u v H locs ls o h; cases h
    | succ n ih =>
      intro x4 u v H locs ls o h hP hS hl hk
      rw [pX5_serveProduct_L16] at h
      refine lv_iload hx hb dX5_serveProduct_16 (lv_at hl 4 rfl) ?_
      refine lv_iconst (v := (1 : Int32)) hx hb dX5_serveProduct_18 (by decide) ?_
      refine lv_icmp_lt (tgt := 72) hx hb dX5_serveProduct_19 (by decide) (fun c9 => ?_) (fun c9 => ?_)
      · have h := vz_t c9 h
        cases h
        exact hk u v _ _ ls rfl hP hS (lv_sub hl [] rfl)
      · have h := vz_f c9 h
        refine lv_iconst (v := (0 : Int32)) hx hb dX5_serveProduct_22 (by decide) ?_
        refine lv_istore (lv' := [(5, .int (0 : Int32)), (0, .ref (ad 62)), (1, .ref (ad 2)), (2, .ref (ad 60)), (3, .int x3), (4, .int x4)]) hx hb dX5_serveProduct_23 hl (by decide) rfl (fun ls hl => ?_)
        obtain ⟨o10, hL11, h⟩ := vz_b h
        refine L25 x3 x4 fuel (0 : Int32) u v _ _ ls o10 hL11 hP hS (lv_sub hl [1, 2, 3, 4, 5, 0] rfl) (fun u13 v14 H locs ls e12 hP hS hl => ?_)
        try rw [e12] at h
        try dsimp only at h
        refine lv_iinc (v := (x4 + (-1))) (lv' := [(4, .int (x4 + (-1))), (0, .ref (ad 62)), (1, .ref (ad 2)), (2, .ref (ad 60)), (3, .int x3)]) hx hb dX5_serveProduct_66 hl (k := 4) rfl rfl (by decide) rfl (fun ls hl => ?_)
        refine lv_goto (tgt := 16) hx hb dX5_serveProduct_69 (by decide) ?_
        exact ih (x4 + (-1)) u13 v14 _ _ ls o h hP hS (lv_sub hl [1, 2, 3, 4, 0] rfl) hk
  rw [pX5_serveProduct] at h
  refine lv_aload_n hx hb dX5_serveProduct_0 rfl (lv_at hl 1 rfl) ?_
  refine za_getr (k := 0) hx hb hts hin0 hown hK hP zF_2_0 rfl (Nat.le_of_ble_eq_true rfl) (nw_211 hK.2) dX5_serveProduct_1 ?_
  refine lv_iload_n hx hb dX5_serveProduct_4 rfl (lv_at hl 3 rfl) ?_
  obtain ⟨r16, hc15, h⟩ := vz_b h
  refine za_callR (va_runVN (As := [.int a3]) (rest := []) ⟨hx, hb, hml, hown, hts⟩ (k_X6_isFree l (D := D) (cI := cI) (cJ := cJ) (ad := ad) hc15) ⟨va_cnB 1 hts gX5_serveProduct_X6_isFree_n53 rfl rfl rfl (nw_635 hK.2) hw2 zd_X6_isFree ⟨Nat.le_of_ble_eq_true rfl, Nat.le_of_ble_eq_true rfl⟩, hw1, hw3⟩ (xPreV (ci := 6) hK hP rfl zO_3) rfl rfl hl.1 rfl (lv_room (Nat.le_of_ble_eq_true rfl)) dX5_serveProduct_5 ⟨Nat.zero_le _, Nat.zero_le _⟩) ?_
  refine lv_if_eq (tgt := 12) hx hb dX5_serveProduct_8 (by decide) (fun c17 => ?_) (fun c17 => ?_)
  · have h := vz_t c17 h
    refine lv_bipush (v := (9 : Int32)) hx hb dX5_serveProduct_12 (by decide) ?_
    refine lv_istore (lv' := [(4, .int (9 : Int32)), (0, .ref (ad 62)), (1, .ref (ad 2)), (2, .ref (ad 60)), (3, .int a3)]) hx hb dX5_serveProduct_14 hl (by decide) rfl (fun ls hl => ?_)
    obtain ⟨o18, hL19, h⟩ := vz_b h
    refine L16 a3 fuel (9 : Int32) u v _ _ ls o18 hL19 hP hS (lv_sub hl [1, 2, 3, 4, 0] rfl) (fun u21 v22 H locs ls e20 hP hS hl => ?_)
    try rw [e20] at h
    try dsimp only at h
    cases h
    exact W.vret hx hb hr (fun t ht _ => ⟨rfl, by rw [ht]; exact hP, hS.F ht⟩) hS.2.2 dX5_serveProduct_72
  · have h := vz_f c17 h
    cases h
    exact W.vret hx hb hr (fun t ht _ => ⟨rfl, by rw [ht]; exact hP, hS.F ht⟩) hS.2.2 dX5_serveProduct_11
abbrev rmX5_serveAll : Room := { frames := 3, cells := 0, slots := 0, locals := 75 }
set_option maxHeartbeats 4000000 in
set_option maxRecDepth 100000 in
theorem k_X5_serveAll (l : Launch) {D : va_G} {cI cJ : ClassId} {ad : Nat → Nat} {u : tU} {v : tV} {A : Nat → Prop} (hD : zD A cI cJ ad) {uz : tU} {vz : tV} (h : pX5_serveAll u v  = some (uz, vz)) : Met l yX5_serveAll wsX5_serveAll rmX5_serveAll (va_Pc [.ref (ad 62), .ref (ad 2), .ref (ad 60)] (xPre D cI cJ (wA cI cJ ad u v))) (xWv D cI cJ ad A uz vz) 0 0 A := by
  refine Met.ofW (cc := cX5_serveAll) (maxL := 4) (ret := none) (by decide) rfl ?_
  intro p e s m args below meth c s₁ B hml hv
  obtain ⟨rfl, hP, hK⟩ := hv
  have hx := B.exec
  have hb := B.bytes
  have hr := B.returns
  have hts := atoms_spec (ws := wsX5_serveAll) B.pre
  have hown : s.vm.findClass RX5 = some m.cls := findClass_of_methodNamed B.named
  have hlocks := B.notSynchronized
  have hS : va_S A s.heap s.heap [] := va_S.rf
  have hin0 : ∀ w ∈ u_ws RX0 TX0 8, w ∈ wsX5_serveAll := fun _ h => List.mem_cons_of_mem _ (List.mem_append_left _ (List.mem_append_left _ (List.mem_append_left _ (List.mem_append_left _ (List.mem_append_left _ (List.mem_append_right _ h))))))
  have hin6 : ∀ w ∈ u_ws RX6 TX6 4, w ∈ wsX5_serveAll := fun _ h => List.mem_cons_of_mem _ (List.mem_append_left _ (List.mem_append_left _ (List.mem_append_left _ (List.mem_append_left _ (List.mem_append_right _ h)))))
  have hl := lv_entry ([.ref (ad 62), .ref (ad 2), .ref (ad 60)]) (n := 4) (Nat.le_of_ble_eq_true rfl)
  rw [lg_entry_eq]
  generalize (lg_sl ([.ref (ad 62), .ref (ad 2), .ref (ad 60)]) ++ List.replicate (4 - (lg_sl ([.ref (ad 62), .ref (ad 2), .ref (ad 60)])).length) Slot.unset).toArray = ls at hl ⊢
  have hl : lv_has ls 4 [(0, .ref (ad 62)), (1, .ref (ad 2)), (2, .ref (ad 60))] := hl
  have L2 : ∀ (n : Nat) (x3 : Int32) (u : tU) (v : tV) (H : Heap) (locs : List Loc) (ls : Array Slot) (o : tU × tV), pX5_serveAll_L2 n x3 u v = some o → va_P D vwCl (wA cI cJ ad u v) H → va_S A s.heap H locs → lv_has ls 4 [(0, .ref (ad 62)), (1, .ref (ad 2)), (2, .ref (ad 60)), (3, .int x3)] → (∀ (u' : tU) (v' : tV) (H : Heap) (locs : List Loc) (ls : Array Slot), o = (u', v') → va_P D vwCl (wA cI cJ ad u' v') H → va_S A s.heap H locs → lv_has ls 4 [] → W p l e (headSpec wsX5_serveAll rmX5_serveAll).room s m [Value.ref (ad 62), Value.ref (ad 2), Value.ref (ad 60)].toArray below meth c H locs 0 0 (MQ below (xWv D cI cJ ad A uz vz) [Value.ref (ad 62), Value.ref (ad 2), Value.ref (ad 60)].toArray s 0 0 A) (F0 m 26 ls [])) → W p l e (headSpec wsX5_serveAll rmX5_serveAll).room s m [Value.ref (ad 62), Value.ref (ad 2), Value.ref (ad 60)].toArray below meth c H locs 0 0 (MQ below (xWv D cI cJ ad A uz vz) [Value.ref (ad 62), Value.ref (ad 2), Value.ref (ad 60)].toArray s 0 0 A) (F0 m 2 ls []) := by
    intro n
    induction n with
    | zero => intro x3 u v H locs ls o h; cases h
    | succ n ih =>
      intro x3 u v H locs ls o h hP hS hl hk
      rw [pX5_serveAll_L2] at h
      refine lv_iload_n hx hb dX5_serveAll_2 rfl (lv_at hl 3 rfl) ?_
      refine lv_aload_n hx hb dX5_serveAll_3 rfl (lv_at hl 1 rfl) ?_
      refine za_getr (k := 0) hx hb hts hin0 hown hK hP zF_2_0 rfl (Nat.le_of_ble_eq_true rfl) (nw_211 hK.2) dX5_serveAll_4 ?_
      refine za_geti (k := 0) hx hb hts hin6 hown hK hP zF_3_0 rfl (Nat.le_of_ble_eq_true rfl) (nw_53 hK.2) dX5_serveAll_7 ?_
      refine lv_icmp_ge (tgt := 26) hx hb dX5_serveAll_10 (by decide) (fun c1 => ?_) (fun c1 => ?_)
      · have h := vz_t c1 h
        cases h
        exact hk u v _ _ ls rfl hP hS (lv_sub hl [] rfl)
      · have h := vz_f c1 h
        refine lv_aload_n hx hb dX5_serveAll_13 rfl (lv_at hl 0 rfl) ?_
        refine lv_aload_n hx hb dX5_serveAll_14 rfl (lv_at hl 1 rfl) ?_
        refine lv_aload_n hx hb dX5_serveAll_15 rfl (lv_at hl 2 rfl) ?_
        refine lv_iload_n hx hb dX5_serveAll_16 rfl (lv_at hl 3 rfl) ?_
        obtain ⟨⟨u3, v4⟩, hc2, h⟩ := vz_b h
        try dsimp only at h
        refine za_callWv (va_runV (As := [.ref (ad 2), .ref (ad 60), .int x3]) (rest := []) ⟨hx, hb, hml, hown, hts⟩ (k_X5_serveProduct l (D := D) (cI := cI) (cJ := cJ) (ad := ad) hD hc2) (cwV 3 hts gX5_serveAll_X5_serveProduct rfl rfl rfl ⟨rfl, zd_X5_serveProduct⟩ ⟨Nat.le_of_ble_eq_true rfl, Nat.le_of_ble_eq_true rfl⟩) (xPreV (ci := 5) hK hP rfl zO_62) rfl rfl hl.1 rfl (lv_room (Nat.le_of_ble_eq_true rfl)) dX5_serveAll_17 ⟨Nat.zero_le _, Nat.zero_le _⟩) hS (fun H locs hP hS => ?_)
        refine lv_iinc (v := (x3 + 1)) (lv' := [(3, .int (x3 + 1)), (0, .ref (ad 62)), (1, .ref (ad 2)), (2, .ref (ad 60))]) hx hb dX5_serveAll_20 hl (k := 3) rfl rfl (by decide) rfl (fun ls hl => ?_)
        refine lv_goto (tgt := 2) hx hb dX5_serveAll_23 (by decide) ?_
        exact ih (x3 + 1) u3 v4 _ _ ls o h hP hS (lv_sub hl [1, 2, 3, 0] rfl) hk
  rw [pX5_serveAll] at h
  refine lv_iconst (v := (0 : Int32)) hx hb dX5_serveAll_0 (by decide) ?_
  refine lv_istore_n (lv' := [(3, .int (0 : Int32)), (0, .ref (ad 62)), (1, .ref (ad 2)), (2, .ref (ad 60))]) hx hb dX5_serveAll_1 rfl hl (by decide) rfl (fun ls hl => ?_)
  obtain ⟨o6, hL7, h⟩ := vz_b h
  refine L2 fuel (0 : Int32) u v _ _ ls o6 hL7 hP hS (lv_sub hl [1, 2, 3, 0] rfl) (fun u9 v10 H locs ls e8 hP hS hl => ?_)
  try rw [e8] at h
  try dsimp only at h
  cases h
  exact W.vret hx hb hr (fun t ht _ => ⟨rfl, by rw [ht]; exact hP, hS.F ht⟩) hS.2.2 dX5_serveAll_26
abbrev rmX10_cost : Room := { frames := 6, cells := 0, slots := 0, locals := 141 }
set_option maxHeartbeats 4000000 in
set_option maxRecDepth 100000 in
theorem k_X10_cost (l : Launch) {D : va_G} {cI cJ : ClassId} {ad : Nat → Nat} {u : tU} {v : tV} {A : Nat → Prop} (hD : zD A cI cJ ad) {r : Int32} {uz : tU} {vz : tV} (h : pX10_cost u v  = some (r, uz, vz)) : Met l yX10_cost wsX10_cost rmX10_cost (va_Pc [.ref (ad 0)] (xPre D cI cJ (wA cI cJ ad u v))) (xWi D cI cJ ad A r uz vz) 0 0 A := by
  refine Met.ofW (cc := cX10_cost) (maxL := 1) (ret := (some .int)) (by decide) rfl ?_
  intro p e s m args below meth c s₁ B hml hv
  obtain ⟨rfl, hP, hK⟩ := hv
  have hx := B.exec
  have hb := B.bytes
  have hr := B.returns
  have hts := atoms_spec (ws := wsX10_cost) B.pre
  have hown : s.vm.findClass RX10 = some m.cls := findClass_of_methodNamed B.named
  have hlocks := B.notSynchronized
  have hS : va_S A s.heap s.heap [] := va_S.rf
  have hin0 : ∀ w ∈ u_ws RX0 TX0 8, w ∈ wsX10_cost := fun _ h => List.mem_cons_of_mem _ (List.mem_append_left _ (List.mem_append_left _ (List.mem_append_left _ (List.mem_append_left _ (List.mem_append_left _ (List.mem_append_left _ (List.mem_append_left _ (List.mem_append_right _ h))))))))
  have hin5 : ∀ w ∈ u_ws RX5 TX5 3, w ∈ wsX10_cost := fun _ h => List.mem_cons_of_mem _ (List.mem_append_left _ (List.mem_append_left _ (List.mem_append_left _ (List.mem_append_left _ (List.mem_append_left _ (List.mem_append_left _ (List.mem_append_right _ h)))))))
  have hin10 : ∀ w ∈ u_ws RX10 TX10 7, w ∈ wsX10_cost := fun _ h => List.mem_cons_of_mem _ (List.mem_append_left _ (List.mem_append_left _ (List.mem_append_left _ (List.mem_append_left _ (List.mem_append_left _ (List.mem_append_left _ (List.mem_append_left _ (List.mem_append_left _ (List.mem_append_right _ h)))))))))
  have hw1 := hts (.fieldLink RX10 29 "InstallDesk" "holdings" "LInstallDesk$Holdings;") (List.mem_of_getElem? (i := 1) rfl)
  have hw2 := hts (.fieldLink RX10 19 "InstallDesk" "books" "LInstallDesk$Books;") (List.mem_of_getElem? (i := 2) rfl)
  have hw3 := hts (.fieldLink RX10 36 "InstallDesk" "match" "LInstallDesk$Match;") (List.mem_of_getElem? (i := 3) rfl)
  have hw4 := hts (.instanceMethod yX2_fill) (List.mem_of_getElem? (i := 4) rfl)
  have hw5 := hts (.initialized RX2) (List.mem_of_getElem? (i := 5) rfl)
  have hw6 := hts (.selects RX2 yX2_fill yX2_fill) (List.mem_of_getElem? (i := 6) rfl)
  have hw78 := hts (.instanceMethod yX5_begin) (List.mem_of_getElem? (i := 78) rfl)
  have hw79 := hts (.initialized RX5) (List.mem_of_getElem? (i := 79) rfl)
  have hw80 := hts (.selects RX5 yX5_begin yX5_begin) (List.mem_of_getElem? (i := 80) rfl)
  have hw85 := hts (.instanceMethod yX5_serveAll) (List.mem_of_getElem? (i := 85) rfl)
  have hw86 := hts (.selects RX5 yX5_serveAll yX5_serveAll) (List.mem_of_getElem? (i := 86) rfl)
  have hl := lv_entry ([.ref (ad 0)]) (n := 1) (Nat.le_of_ble_eq_true rfl)
  rw [lg_entry_eq]
  generalize (lg_sl ([.ref (ad 0)]) ++ List.replicate (1 - (lg_sl ([.ref (ad 0)])).length) Slot.unset).toArray = ls at hl ⊢
  have hl : lv_has ls 1 [(0, .ref (ad 0))] := hl
  rw [pX10_cost] at h
  refine lv_aload_n hx hb dX10_cost_0 rfl (lv_at hl 0 rfl) ?_
  refine za_getr (k := 3) hx hb hts hin10 hown hK hP zF_0_3 rfl (Nat.le_of_ble_eq_true rfl) (Or.inl hw1) dX10_cost_1 ?_
  refine lv_aload_n hx hb dX10_cost_4 rfl (lv_at hl 0 rfl) ?_
  refine za_getr (k := 1) hx hb hts hin10 hown hK hP zF_0_1 rfl (Nat.le_of_ble_eq_true rfl) (Or.inl hw2) dX10_cost_5 ?_
  obtain ⟨⟨u2, v3⟩, hc1, h⟩ := vz_b h
  try dsimp only at h
  refine za_callWv (va_runVN (As := [.ref (ad 2)]) (rest := []) ⟨hx, hb, hml, hown, hts⟩ (k_X2_fill l (D := D) (cI := cI) (cJ := cJ) (ad := ad) hD hc1) ⟨va_cnB 1 hts gX10_cost_X2_fill_n159 rfl rfl rfl (nw_474 hK.2) hw5 zd_X2_fill ⟨Nat.le_of_ble_eq_true rfl, Nat.le_of_ble_eq_true rfl⟩, hw4, hw6⟩ (xPreV (ci := 2) hK hP rfl zO_60) rfl rfl hl.1 rfl (lv_room (Nat.le_of_ble_eq_true rfl)) dX10_cost_8 ⟨Nat.zero_le _, Nat.zero_le _⟩) hS (fun H locs hP hS => ?_)
  refine lv_aload_n hx hb dX10_cost_11 rfl (lv_at hl 0 rfl) ?_
  refine za_getr (k := 4) hx hb hts hin10 hown hK hP zF_0_4 rfl (Nat.le_of_ble_eq_true rfl) (Or.inl hw3) dX10_cost_12 ?_
  refine lv_aload_n hx hb dX10_cost_15 rfl (lv_at hl 0 rfl) ?_
  refine za_getr (k := 1) hx hb hts hin10 hown hK hP zF_0_1 rfl (Nat.le_of_ble_eq_true rfl) (Or.inl hw2) dX10_cost_16 ?_
  refine za_getr (k := 5) hx hb hts hin0 hown hK hP zF_2_5 rfl (Nat.le_of_ble_eq_true rfl) (nw_226 hK.2) dX10_cost_19 ?_
  refine lv_aload_n hx hb dX10_cost_22 rfl (lv_at hl 0 rfl) ?_
  refine za_getr (k := 1) hx hb hts hin10 hown hK hP zF_0_1 rfl (Nat.le_of_ble_eq_true rfl) (Or.inl hw2) dX10_cost_23 ?_
  refine za_geti (k := 6) hx hb hts hin0 hown hK hP zF_2_6 rfl (Nat.le_of_ble_eq_true rfl) (nw_228 hK.2) dX10_cost_26 ?_
  obtain ⟨⟨u6, v7⟩, hc5, h⟩ := vz_b h
  try dsimp only at h
  refine za_callWv (va_runVN (As := [.ref (ad 24), .int (u2 10 6)]) (rest := []) ⟨hx, hb, hml, hown, hts⟩ (k_X5_begin l (D := D) (cI := cI) (cJ := cJ) (ad := ad) hD hc5) ⟨va_cnB 2 hts gX10_cost_X5_begin_n216 rfl rfl rfl (nw_622 hK.2) hw79 zd_X5_begin ⟨Nat.le_of_ble_eq_true rfl, Nat.le_of_ble_eq_true rfl⟩, hw78, hw80⟩ (xPreV (ci := 5) hK hP rfl zO_62) rfl rfl hl.1 rfl (lv_room (Nat.le_of_ble_eq_true rfl)) dX10_cost_29 ⟨Nat.zero_le _, Nat.zero_le _⟩) hS (fun H locs hP hS => ?_)
  refine lv_aload_n hx hb dX10_cost_32 rfl (lv_at hl 0 rfl) ?_
  refine za_getr (k := 4) hx hb hts hin10 hown hK hP zF_0_4 rfl (Nat.le_of_ble_eq_true rfl) (Or.inl hw3) dX10_cost_33 ?_
  refine lv_aload_n hx hb dX10_cost_36 rfl (lv_at hl 0 rfl) ?_
  refine za_getr (k := 1) hx hb hts hin10 hown hK hP zF_0_1 rfl (Nat.le_of_ble_eq_true rfl) (Or.inl hw2) dX10_cost_37 ?_
  refine lv_aload_n hx hb dX10_cost_40 rfl (lv_at hl 0 rfl) ?_
  refine za_getr (k := 3) hx hb hts hin10 hown hK hP zF_0_3 rfl (Nat.le_of_ble_eq_true rfl) (Or.inl hw1) dX10_cost_41 ?_
  obtain ⟨⟨u10, v11⟩, hc9, h⟩ := vz_b h
  try dsimp only at h
  refine za_callWv (va_runVN (As := [.ref (ad 2), .ref (ad 60)]) (rest := []) ⟨hx, hb, hml, hown, hts⟩ (k_X5_serveAll l (D := D) (cI := cI) (cJ := cJ) (ad := ad) hD hc9) ⟨va_cnB 2 hts gX10_cost_X5_serveAll_n220 rfl rfl rfl (nw_627 hK.2) hw79 zd_X5_serveAll ⟨Nat.le_of_ble_eq_true rfl, Nat.le_of_ble_eq_true rfl⟩, hw85, hw86⟩ (xPreV (ci := 5) hK hP rfl zO_62) rfl rfl hl.1 rfl (lv_room (Nat.le_of_ble_eq_true rfl)) dX10_cost_44 ⟨Nat.zero_le _, Nat.zero_le _⟩) hS (fun H locs hP hS => ?_)
  refine lv_aload_n hx hb dX10_cost_47 rfl (lv_at hl 0 rfl) ?_
  refine za_getr (k := 4) hx hb hts hin10 hown hK hP zF_0_4 rfl (Nat.le_of_ble_eq_true rfl) (Or.inl hw3) dX10_cost_48 ?_
  refine za_geti (k := 2) hx hb hts hin5 hown hK hP zF_62_2 rfl (Nat.le_of_ble_eq_true rfl) (nw_268 hK.2) dX10_cost_51 ?_
  cases h
  exact W.iret hx hb hr (fun t ht _ => ⟨rfl, by rw [ht]; exact hP, hS.F ht⟩) hS.2.2 dX10_cost_54
abbrev rmX10_counts : Room := { frames := 5, cells := 0, slots := 0, locals := 120 }
set_option maxHeartbeats 4000000 in
set_option maxRecDepth 100000 in
theorem k_X10_counts (l : Launch) {D : va_G} {cI cJ : ClassId} {ad : Nat → Nat} {u : tU} {v : tV} {A : Nat → Prop} (hD : zD A cI cJ ad) {a1 : Int32}  {r : Int32} {uz : tU} {vz : tV} (h : pX10_counts u v a1 = some (r, uz, vz)) : Met l yX10_counts wsX10_counts rmX10_counts (va_Pc [.ref (ad 0), .int a1] (xPre D cI cJ (wA cI cJ ad u v))) (xWi D cI cJ ad A r uz vz) 0 0 A := by
  refine Met.ofW (cc := cX10_counts) (maxL := 2) (ret := (some .int)) (by decide) rfl ?_
  intro p e s m args below meth c s₁ B hml hv
  obtain ⟨rfl, hP, hK⟩ := hv
  have hx := B.exec
  have hb := B.bytes
  have hr := B.returns
  have hts := atoms_spec (ws := wsX10_counts) B.pre
  have hown : s.vm.findClass RX10 = some m.cls := findClass_of_methodNamed B.named
  have hlocks := B.notSynchronized
  have hS : va_S A s.heap s.heap [] := va_S.rf
  have hin0 : ∀ w ∈ u_ws RX0 TX0 8, w ∈ wsX10_counts := fun _ h => List.mem_cons_of_mem _ (List.mem_append_left _ (List.mem_append_left _ (List.mem_append_right _ h)))
  have hin10 : ∀ w ∈ u_ws RX10 TX10 7, w ∈ wsX10_counts := fun _ h => List.mem_cons_of_mem _ (List.mem_append_left _ (List.mem_append_left _ (List.mem_append_left _ (List.mem_append_right _ h))))
  have hw1 := hts (.fieldLink RX10 19 "InstallDesk" "books" "LInstallDesk$Books;") (List.mem_of_getElem? (i := 1) rfl)
  have hw2 := hts (.instanceMethod yX1_isOne) (List.mem_of_getElem? (i := 2) rfl)
  have hw3 := hts (.initialized RX1) (List.mem_of_getElem? (i := 3) rfl)
  have hw4 := hts (.selects RX1 yX1_isOne yX1_isOne) (List.mem_of_getElem? (i := 4) rfl)
  have hw13 := hts (.instanceMethod yX0_isCounted) (List.mem_of_getElem? (i := 13) rfl)
  have hw14 := hts (.initialized RX0) (List.mem_of_getElem? (i := 14) rfl)
  have hw15 := hts (.selects RX0 yX0_isCounted yX0_isCounted) (List.mem_of_getElem? (i := 15) rfl)
  have hl := lv_entry ([.ref (ad 0), .int a1]) (n := 2) (Nat.le_of_ble_eq_true rfl)
  rw [lg_entry_eq]
  generalize (lg_sl ([.ref (ad 0), .int a1]) ++ List.replicate (2 - (lg_sl ([.ref (ad 0), .int a1])).length) Slot.unset).toArray = ls at hl ⊢
  have hl : lv_has ls 2 [(0, .ref (ad 0)), (1, .int a1)] := hl
  rw [pX10_counts] at h
  refine lv_aload_n hx hb dX10_counts_0 rfl (lv_at hl 0 rfl) ?_
  refine za_getr (k := 1) hx hb hts hin10 hown hK hP zF_0_1 rfl (Nat.le_of_ble_eq_true rfl) (Or.inl hw1) dX10_counts_1 ?_
  refine za_getr (k := 3) hx hb hts hin0 hown hK hP zF_2_3 rfl (Nat.le_of_ble_eq_true rfl) (nw_221 hK.2) dX10_counts_4 ?_
  refine lv_iload_n hx hb dX10_counts_7 rfl (lv_at hl 1 rfl) ?_
  obtain ⟨r2, hc1, h⟩ := vz_b h
  refine za_callR (va_runVN (As := [.int a1]) (rest := []) ⟨hx, hb, hml, hown, hts⟩ (k_X1_isOne l (D := D) (cI := cI) (cJ := cJ) (ad := ad) hc1) ⟨va_cnB 1 hts gX10_counts_X1_isOne_n107 rfl rfl rfl (nw_370 hK.2) hw3 zd_X1_isOne ⟨Nat.le_of_ble_eq_true rfl, Nat.le_of_ble_eq_true rfl⟩, hw2, hw4⟩ (xPreV (ci := 1) hK hP rfl zO_14) rfl rfl hl.1 rfl (lv_room (Nat.le_of_ble_eq_true rfl)) dX10_counts_8 ⟨Nat.zero_le _, Nat.zero_le _⟩) ?_
  refine lv_if_ne (tgt := 20) hx hb dX10_counts_11 (by decide) (fun c3 => ?_) (fun c3 => ?_)
  · have h := vz_f c3 h
    refine lv_aload_n hx hb dX10_counts_20 rfl (lv_at hl 0 rfl) ?_
    refine za_getr (k := 1) hx hb hts hin10 hown hK hP zF_0_1 rfl (Nat.le_of_ble_eq_true rfl) (Or.inl hw1) dX10_counts_21 ?_
    refine lv_iload_n hx hb dX10_counts_24 rfl (lv_at hl 1 rfl) ?_
    obtain ⟨r5, hc4, h⟩ := vz_b h
    refine za_callR (va_runVN (As := [.int a1]) (rest := []) ⟨hx, hb, hml, hown, hts⟩ (k_X0_isCounted l (D := D) (cI := cI) (cJ := cJ) (ad := ad) hc4) ⟨va_cnB 1 hts gX10_counts_X0_isCounted_n146 rfl rfl rfl (nw_435 hK.2) hw14 zd_X0_isCounted ⟨Nat.le_of_ble_eq_true rfl, Nat.le_of_ble_eq_true rfl⟩, hw13, hw15⟩ (xPreV (ci := 0) hK hP rfl zO_2) rfl rfl hl.1 rfl (lv_room (Nat.le_of_ble_eq_true rfl)) dX10_counts_25 ⟨Nat.zero_le _, Nat.zero_le _⟩) ?_
    refine lv_if_eq (tgt := 35) hx hb dX10_counts_28 (by decide) (fun c6 => ?_) (fun c6 => ?_)
    · have h := vz_t c6 h
      refine lv_iconst (v := (0 : Int32)) hx hb dX10_counts_35 (by decide) ?_
      cases h
      exact W.iret hx hb hr (fun t ht _ => ⟨rfl, by rw [ht]; exact hP, hS.F ht⟩) hS.2.2 dX10_counts_36
    · have h := vz_f c6 h
      refine lv_iconst (v := (1 : Int32)) hx hb dX10_counts_31 (by decide) ?_
      refine lv_goto (tgt := 36) hx hb dX10_counts_32 (by decide) ?_
      cases h
      exact W.iret hx hb hr (fun t ht _ => ⟨rfl, by rw [ht]; exact hP, hS.F ht⟩) hS.2.2 dX10_counts_36
  · have h := vz_t c3 h
    refine lv_aload_n hx hb dX10_counts_14 rfl (lv_at hl 0 rfl) ?_
    refine lv_iconst (v := (-1 : Int32)) hx hb dX10_counts_15 (by decide) ?_
    obtain ⟨⟨r11, u8, v9⟩, hc7, h⟩ := vz_b h
    try dsimp only at h
    refine za_callWi (va_runV (As := [.int (-1 : Int32)]) (rest := []) ⟨hx, hb, hml, hown, hts⟩ (k_X10_finding l (D := D) (cI := cI) (cJ := cJ) (ad := ad) hD hc7) (cwV 1 hts gX10_counts_X10_finding rfl rfl rfl ⟨rfl, zd_X10_finding⟩ ⟨Nat.le_of_ble_eq_true rfl, Nat.le_of_ble_eq_true rfl⟩) (xPreV (ci := 10) hK hP rfl zO_0) rfl rfl hl.1 rfl (lv_room (Nat.le_of_ble_eq_true rfl)) dX10_counts_16 ⟨Nat.zero_le _, Nat.zero_le _⟩) hS (fun H locs hP hS => ?_)
    cases h
    exact W.iret hx hb hr (fun t ht _ => ⟨rfl, by rw [ht]; exact hP, hS.F ht⟩) hS.2.2 dX10_counts_19
abbrev rmX1_remove : Room := { frames := 0, cells := 0, slots := 0, locals := 0 }
set_option maxHeartbeats 4000000 in
set_option maxRecDepth 100000 in
theorem k_X1_remove (l : Launch) {D : va_G} {cI cJ : ClassId} {ad : Nat → Nat} {u : tU} {v : tV} {A : Nat → Prop} (hD : zD A cI cJ ad) {a1 : Int32}  {uz : tU} {vz : tV} (h : pX1_remove u v a1 = some (uz, vz)) : Met l yX1_remove wsX1_remove rmX1_remove (va_Pc [.ref (ad 14), .int a1] (xPre D cI cJ (wA cI cJ ad u v))) (xWv D cI cJ ad A uz vz) 0 0 A := by
  refine Met.ofW (cc := cX1_remove) (maxL := 3) (ret := none) (by decide) rfl ?_
  intro p e s m args below meth c s₁ B hml hv
  obtain ⟨rfl, hP, hK⟩ := hv
  have hx := B.exec
  have hb := B.bytes
  have hr := B.returns
  have hts := atoms_spec (ws := wsX1_remove) B.pre
  have hown : s.vm.findClass RX1 = some m.cls := findClass_of_methodNamed B.named
  have hlocks := B.notSynchronized
  have hS : va_S A s.heap s.heap [] := va_S.rf
  have hin1 : ∀ w ∈ u_ws RX1 TX1 5, w ∈ wsX1_remove := fun _ h => List.mem_cons_of_mem _ (List.mem_append_right _ h)
  have hw1 := hts (.fieldLink RX1 25 "InstallDesk$Finds" "count" "I") (List.mem_of_getElem? (i := 1) rfl)
  have hw2 := hts (.fieldLink RX1 9 "InstallDesk$Finds" "names" "[J") (List.mem_of_getElem? (i := 2) rfl)
  have hw3 := hts (.fieldLink RX1 15 "InstallDesk$Finds" "hosts" "[I") (List.mem_of_getElem? (i := 3) rfl)
  have hw4 := hts (.fieldLink RX1 19 "InstallDesk$Finds" "days" "[I") (List.mem_of_getElem? (i := 4) rfl)
  have hw5 := hts (.fieldLink RX1 22 "InstallDesk$Finds" "versions" "[I") (List.mem_of_getElem? (i := 5) rfl)
  have hl := lv_entry ([.ref (ad 14), .int a1]) (n := 3) (Nat.le_of_ble_eq_true rfl)
  rw [lg_entry_eq]
  generalize (lg_sl ([.ref (ad 14), .int a1]) ++ List.replicate (3 - (lg_sl ([.ref (ad 14), .int a1])).length) Slot.unset).toArray = ls at hl ⊢
  have hl : lv_has ls 3 [(0, .ref (ad 14)), (1, .int a1)] := hl
  have L2 : ∀ (n : Nat) (x2 : Int32) (u : tU) (v : tV) (H : Heap) (locs : List Loc) (ls : Array Slot) (o : tU × tV), pX1_remove_L2 n x2 u v = some o → va_P D vwCl (wA cI cJ ad u v) H → va_S A s.heap H locs → lv_has ls 3 [(0, .ref (ad 14)), (2, .int x2)] → (∀ (u' : tU) (v' : tV) (H : Heap) (locs : List Loc) (ls : Array Slot), o = (u', v') → va_P D vwCl (wA cI cJ ad u' v') H → va_S A s.heap H locs → lv_has ls 3 [(0, .ref (ad 14))] → W p l e (headSpec wsX1_remove rmX1_remove).room s m [Value.ref (ad 14), Value.int a1].toArray below meth c H locs 0 0 (MQ below (xWv D cI cJ ad A uz vz) [Value.ref (ad 14), Value.int a1].toArray s 0 0 A) (F0 m 74 ls [])) → W p l e (headSpec wsX1_remove rmX1_remove).room s m [Value.ref (ad 14), Value.int a1].toArray below meth c H locs 0 0 (MQ below (xWv D cI cJ ad A uz vz) [Value.ref (ad 14), Value.int a1].toArray s 0 0 A) (F0 m 2 ls []) := by
    intro n
    induction n with
    | zero => intro x2 u v H locs ls o h; cases h
    | succ n ih =>
      intro x2 u v H locs ls o h hP hS hl hk
      rw [pX1_remove_L2] at h
      refine lv_iload_n hx hb dX1_remove_2 rfl (lv_at hl 1 rfl) ?_
      refine lv_iconst (v := (1 : Int32)) hx hb dX1_remove_3 (by decide) ?_
      refine lv_iadd hx hb dX1_remove_4 ?_
      refine lv_aload_n hx hb dX1_remove_5 rfl (lv_at hl 0 rfl) ?_
      refine za_geti (k := 0) hx hb hts hin1 hown hK hP zF_14_0 rfl (Nat.le_of_ble_eq_true rfl) (Or.inl hw1) dX1_remove_6 ?_
      refine lv_icmp_ge (tgt := 74) hx hb dX1_remove_9 (by decide) (fun c1 => ?_) (fun c1 => ?_)
      · have h := vz_t c1 h
        cases h
        exact hk u v _ _ ls rfl hP hS (lv_sub hl [0] rfl)
      · have h := vz_f c1 h
        refine lv_aload_n hx hb dX1_remove_12 rfl (lv_at hl 0 rfl) ?_
        refine za_getr (k := 1) hx hb hts hin1 hown hK hP zF_14_1 rfl (Nat.le_of_ble_eq_true rfl) (Or.inl hw2) dX1_remove_13 ?_
        refine lv_iload_n hx hb dX1_remove_16 rfl (lv_at hl 1 rfl) ?_
        refine lv_aload_n hx hb dX1_remove_17 rfl (lv_at hl 0 rfl) ?_
        refine za_getr (k := 1) hx hb hts hin1 hown hK hP zF_14_1 rfl (Nat.le_of_ble_eq_true rfl) (Or.inl hw2) dX1_remove_18 ?_
        refine lv_iload_n hx hb dX1_remove_21 rfl (lv_at hl 1 rfl) ?_
        refine lv_iconst (v := (1 : Int32)) hx hb dX1_remove_22 (by decide) ?_
        refine lv_iadd hx hb dX1_remove_23 ?_
        obtain ⟨g2, h⟩ := gd_s h
        refine za_lld hx hb hK hP zJ_15 g2 dX1_remove_24 ?_
        obtain ⟨g3, h⟩ := gd_s h
        refine za_lst hx hb hK hP hD hS zJ_15 g3 dX1_remove_25 (fun H locs hP hS => ?_)
        refine lv_aload_n hx hb dX1_remove_26 rfl (lv_at hl 0 rfl) ?_
        refine za_getr (k := 2) hx hb hts hin1 hown hK hP zF_14_2 rfl (Nat.le_of_ble_eq_true rfl) (Or.inl hw3) dX1_remove_27 ?_
        refine lv_iload_n hx hb dX1_remove_30 rfl (lv_at hl 1 rfl) ?_
        refine lv_aload_n hx hb dX1_remove_31 rfl (lv_at hl 0 rfl) ?_
        refine za_getr (k := 2) hx hb hts hin1 hown hK hP zF_14_2 rfl (Nat.le_of_ble_eq_true rfl) (Or.inl hw3) dX1_remove_32 ?_
        refine lv_iload_n hx hb dX1_remove_35 rfl (lv_at hl 1 rfl) ?_
        refine lv_iconst (v := (1 : Int32)) hx hb dX1_remove_36 (by decide) ?_
        refine lv_iadd hx hb dX1_remove_37 ?_
        obtain ⟨g4, h⟩ := gd_s h
        refine za_ild hx hb hK hP zI_16 g4 dX1_remove_38 ?_
        obtain ⟨g5, h⟩ := gd_s h
        refine za_ist hx hb hK hP hD hS zI_16 g5 dX1_remove_39 (fun H locs hP hS => ?_)
        refine lv_aload_n hx hb dX1_remove_40 rfl (lv_at hl 0 rfl) ?_
        refine za_getr (k := 3) hx hb hts hin1 hown hK hP zF_14_3 rfl (Nat.le_of_ble_eq_true rfl) (Or.inl hw4) dX1_remove_41 ?_
        refine lv_iload_n hx hb dX1_remove_44 rfl (lv_at hl 1 rfl) ?_
        refine lv_aload_n hx hb dX1_remove_45 rfl (lv_at hl 0 rfl) ?_
        refine za_getr (k := 3) hx hb hts hin1 hown hK hP zF_14_3 rfl (Nat.le_of_ble_eq_true rfl) (Or.inl hw4) dX1_remove_46 ?_
        refine lv_iload_n hx hb dX1_remove_49 rfl (lv_at hl 1 rfl) ?_
        refine lv_iconst (v := (1 : Int32)) hx hb dX1_remove_50 (by decide) ?_
        refine lv_iadd hx hb dX1_remove_51 ?_
        obtain ⟨g6, h⟩ := gd_s h
        refine za_ild hx hb hK hP zI_17 g6 dX1_remove_52 ?_
        obtain ⟨g7, h⟩ := gd_s h
        refine za_ist hx hb hK hP hD hS zI_17 g7 dX1_remove_53 (fun H locs hP hS => ?_)
        refine lv_aload_n hx hb dX1_remove_54 rfl (lv_at hl 0 rfl) ?_
        refine za_getr (k := 4) hx hb hts hin1 hown hK hP zF_14_4 rfl (Nat.le_of_ble_eq_true rfl) (Or.inl hw5) dX1_remove_55 ?_
        refine lv_iload_n hx hb dX1_remove_58 rfl (lv_at hl 1 rfl) ?_
        refine lv_aload_n hx hb dX1_remove_59 rfl (lv_at hl 0 rfl) ?_
        refine za_getr (k := 4) hx hb hts hin1 hown hK hP zF_14_4 rfl (Nat.le_of_ble_eq_true rfl) (Or.inl hw5) dX1_remove_60 ?_
        refine lv_iload_n hx hb dX1_remove_63 rfl (lv_at hl 1 rfl) ?_
        refine lv_iconst (v := (1 : Int32)) hx hb dX1_remove_64 (by decide) ?_
        refine lv_iadd hx hb dX1_remove_65 ?_
        obtain ⟨g8, h⟩ := gd_s h
        refine za_ild hx hb hK hP zI_18 g8 dX1_remove_66 ?_
        obtain ⟨g9, h⟩ := gd_s h
        refine za_ist hx hb hK hP hD hS zI_18 g9 dX1_remove_67 (fun H locs hP hS => ?_)
        refine lv_iinc (v := (x2 + 1)) (lv' := [(2, .int (x2 + 1)), (0, .ref (ad 14))]) hx hb dX1_remove_68 hl (k := 1) rfl rfl (by decide) rfl (fun ls hl => ?_)
        refine lv_goto (tgt := 2) hx hb dX1_remove_71 (by decide) ?_
        exact ih (x2 + 1) (sU (sU (sU u 18 x2.toNatClampNeg (u 18 (x2 + (1 : Int32)).toNatClampNeg)) 19 x2.toNatClampNeg ((sU u 18 x2.toNatClampNeg (u 18 (x2 + (1 : Int32)).toNatClampNeg)) 19 (x2 + (1 : Int32)).toNatClampNeg)) 20 x2.toNatClampNeg ((sU (sU u 18 x2.toNatClampNeg (u 18 (x2 + (1 : Int32)).toNatClampNeg)) 19 x2.toNatClampNeg ((sU u 18 x2.toNatClampNeg (u 18 (x2 + (1 : Int32)).toNatClampNeg)) 19 (x2 + (1 : Int32)).toNatClampNeg)) 20 (x2 + (1 : Int32)).toNatClampNeg)) (sV v 2 x2.toNatClampNeg (v 2 (x2 + (1 : Int32)).toNatClampNeg)) _ _ ls o h hP hS (lv_sub hl [1, 0] rfl) hk
  rw [pX1_remove] at h
  refine lv_iload_n hx hb dX1_remove_0 rfl (lv_at hl 1 rfl) ?_
  refine lv_istore_n (lv' := [(2, .int a1), (0, .ref (ad 14)), (1, .int a1)]) hx hb dX1_remove_1 rfl hl (by decide) rfl (fun ls hl => ?_)
  obtain ⟨o10, hL11, h⟩ := vz_b h
  refine L2 fuel a1 u v _ _ ls o10 hL11 hP hS (lv_sub hl [1, 0] rfl) (fun u13 v14 H locs ls e12 hP hS hl => ?_)
  try rw [e12] at h
  try dsimp only at h
  refine lv_aload_n hx hb dX1_remove_74 rfl (lv_at hl 0 rfl) ?_
  refine lv_dup hx hb dX1_remove_75 rfl ?_
  refine za_geti (k := 0) hx hb hts hin1 hown hK hP zF_14_0 rfl (Nat.le_of_ble_eq_true rfl) (Or.inl hw1) dX1_remove_76 ?_
  refine lv_iconst (v := (1 : Int32)) hx hb dX1_remove_79 (by decide) ?_
  refine lv_isub hx hb dX1_remove_80 ?_
  refine za_puti (k := 0) hx hb hts hin1 tyX1 tyX1_ok nmX1 hown hK hP hD hS zF_14_0 rfl (Nat.le_of_ble_eq_true rfl) (Or.inl hw1) rfl rfl rfl dX1_remove_81 (fun H locs hP hS => ?_)
  cases h
  exact W.vret hx hb hr (fun t ht _ => ⟨rfl, by rw [ht]; exact hP, hS.F ht⟩) hS.2.2 dX1_remove_84
abbrev rmX10_drop : Room := { frames := 1, cells := 0, slots := 0, locals := 22 }
set_option maxHeartbeats 4000000 in
set_option maxRecDepth 100000 in
theorem k_X10_drop (l : Launch) {D : va_G} {cI cJ : ClassId} {ad : Nat → Nat} {u : tU} {v : tV} {A : Nat → Prop} (hD : zD A cI cJ ad) {a1 : Int32}  {r : Int32} {uz : tU} {vz : tV} (h : pX10_drop u v a1 = some (r, uz, vz)) : Met l yX10_drop wsX10_drop rmX10_drop (va_Pc [.ref (ad 0), .int a1] (xPre D cI cJ (wA cI cJ ad u v))) (xWi D cI cJ ad A r uz vz) 0 0 A := by
  refine Met.ofW (cc := cX10_drop) (maxL := 2) (ret := (some .int)) (by decide) rfl ?_
  intro p e s m args below meth c s₁ B hml hv
  obtain ⟨rfl, hP, hK⟩ := hv
  have hx := B.exec
  have hb := B.bytes
  have hr := B.returns
  have hts := atoms_spec (ws := wsX10_drop) B.pre
  have hown : s.vm.findClass RX10 = some m.cls := findClass_of_methodNamed B.named
  have hlocks := B.notSynchronized
  have hS : va_S A s.heap s.heap [] := va_S.rf
  have hin0 : ∀ w ∈ u_ws RX0 TX0 8, w ∈ wsX10_drop := fun _ h => List.mem_cons_of_mem _ (List.mem_append_left _ (List.mem_append_right _ h))
  have hin1 : ∀ w ∈ u_ws RX1 TX1 5, w ∈ wsX10_drop := fun _ h => List.mem_cons_of_mem _ (List.mem_append_right _ h)
  have hin10 : ∀ w ∈ u_ws RX10 TX10 7, w ∈ wsX10_drop := fun _ h => List.mem_cons_of_mem _ (List.mem_append_left _ (List.mem_append_left _ (List.mem_append_right _ h)))
  have hw1 := hts (.fieldLink RX10 19 "InstallDesk" "books" "LInstallDesk$Books;") (List.mem_of_getElem? (i := 1) rfl)
  have hw2 := hts (.instanceMethod yX1_isOne) (List.mem_of_getElem? (i := 2) rfl)
  have hw3 := hts (.initialized RX1) (List.mem_of_getElem? (i := 3) rfl)
  have hw4 := hts (.selects RX1 yX1_isOne yX1_isOne) (List.mem_of_getElem? (i := 4) rfl)
  have hw13 := hts (.instanceMethod yX1_remove) (List.mem_of_getElem? (i := 13) rfl)
  have hw14 := hts (.selects RX1 yX1_remove yX1_remove) (List.mem_of_getElem? (i := 14) rfl)
  have hl := lv_entry ([.ref (ad 0), .int a1]) (n := 2) (Nat.le_of_ble_eq_true rfl)
  rw [lg_entry_eq]
  generalize (lg_sl ([.ref (ad 0), .int a1]) ++ List.replicate (2 - (lg_sl ([.ref (ad 0), .int a1])).length) Slot.unset).toArray = ls at hl ⊢
  have hl : lv_has ls 2 [(0, .ref (ad 0)), (1, .int a1)] := hl
  rw [pX10_drop] at h
  refine lv_aload_n hx hb dX10_drop_0 rfl (lv_at hl 0 rfl) ?_
  refine za_getr (k := 1) hx hb hts hin10 hown hK hP zF_0_1 rfl (Nat.le_of_ble_eq_true rfl) (Or.inl hw1) dX10_drop_1 ?_
  refine za_getr (k := 3) hx hb hts hin0 hown hK hP zF_2_3 rfl (Nat.le_of_ble_eq_true rfl) (nw_221 hK.2) dX10_drop_4 ?_
  refine lv_iload_n hx hb dX10_drop_7 rfl (lv_at hl 1 rfl) ?_
  obtain ⟨r2, hc1, h⟩ := vz_b h
  refine za_callR (va_runVN (As := [.int a1]) (rest := []) ⟨hx, hb, hml, hown, hts⟩ (k_X1_isOne l (D := D) (cI := cI) (cJ := cJ) (ad := ad) hc1) ⟨va_cnB 1 hts gX10_drop_X1_isOne_n107 rfl rfl rfl (nw_370 hK.2) hw3 zd_X1_isOne ⟨Nat.le_of_ble_eq_true rfl, Nat.le_of_ble_eq_true rfl⟩, hw2, hw4⟩ (xPreV (ci := 1) hK hP rfl zO_14) rfl rfl hl.1 rfl (lv_room (Nat.le_of_ble_eq_true rfl)) dX10_drop_8 ⟨Nat.zero_le _, Nat.zero_le _⟩) ?_
  refine lv_if_ne (tgt := 20) hx hb dX10_drop_11 (by decide) (fun c3 => ?_) (fun c3 => ?_)
  · have h := vz_f c3 h
    refine lv_aload_n hx hb dX10_drop_20 rfl (lv_at hl 0 rfl) ?_
    refine za_getr (k := 1) hx hb hts hin10 hown hK hP zF_0_1 rfl (Nat.le_of_ble_eq_true rfl) (Or.inl hw1) dX10_drop_21 ?_
    refine za_getr (k := 3) hx hb hts hin0 hown hK hP zF_2_3 rfl (Nat.le_of_ble_eq_true rfl) (nw_221 hK.2) dX10_drop_24 ?_
    refine lv_iload_n hx hb dX10_drop_27 rfl (lv_at hl 1 rfl) ?_
    obtain ⟨⟨u5, v6⟩, hc4, h⟩ := vz_b h
    try dsimp only at h
    refine za_callWv (va_runVN (As := [.int a1]) (rest := []) ⟨hx, hb, hml, hown, hts⟩ (k_X1_remove l (D := D) (cI := cI) (cJ := cJ) (ad := ad) hD hc4) ⟨va_cnB 1 hts gX10_drop_X1_remove_n152 rfl rfl rfl (nw_458 hK.2) hw3 zd_X1_remove ⟨Nat.le_of_ble_eq_true rfl, Nat.le_of_ble_eq_true rfl⟩, hw13, hw14⟩ (xPreV (ci := 1) hK hP rfl zO_14) rfl rfl hl.1 rfl (lv_room (Nat.le_of_ble_eq_true rfl)) dX10_drop_28 ⟨Nat.zero_le _, Nat.zero_le _⟩) hS (fun H locs hP hS => ?_)
    refine lv_aload_n hx hb dX10_drop_31 rfl (lv_at hl 0 rfl) ?_
    refine za_getr (k := 1) hx hb hts hin10 hown hK hP zF_0_1 rfl (Nat.le_of_ble_eq_true rfl) (Or.inl hw1) dX10_drop_32 ?_
    refine za_getr (k := 3) hx hb hts hin0 hown hK hP zF_2_3 rfl (Nat.le_of_ble_eq_true rfl) (nw_221 hK.2) dX10_drop_35 ?_
    refine za_geti (k := 0) hx hb hts hin1 hown hK hP zF_14_0 rfl (Nat.le_of_ble_eq_true rfl) (nw_127 hK.2) dX10_drop_38 ?_
    cases h
    exact W.iret hx hb hr (fun t ht _ => ⟨rfl, by rw [ht]; exact hP, hS.F ht⟩) hS.2.2 dX10_drop_41
  · have h := vz_t c3 h
    refine lv_aload_n hx hb dX10_drop_14 rfl (lv_at hl 0 rfl) ?_
    refine lv_iconst (v := (-1 : Int32)) hx hb dX10_drop_15 (by decide) ?_
    obtain ⟨⟨r12, u9, v10⟩, hc8, h⟩ := vz_b h
    try dsimp only at h
    refine za_callWi (va_runV (As := [.int (-1 : Int32)]) (rest := []) ⟨hx, hb, hml, hown, hts⟩ (k_X10_finding l (D := D) (cI := cI) (cJ := cJ) (ad := ad) hD hc8) (cwV 1 hts gX10_drop_X10_finding rfl rfl rfl ⟨rfl, zd_X10_finding⟩ ⟨Nat.le_of_ble_eq_true rfl, Nat.le_of_ble_eq_true rfl⟩) (xPreV (ci := 10) hK hP rfl zO_0) rfl rfl hl.1 rfl (lv_room (Nat.le_of_ble_eq_true rfl)) dX10_drop_16 ⟨Nat.zero_le _, Nat.zero_le _⟩) hS (fun H locs hP hS => ?_)
    cases h
    exact W.iret hx hb hr (fun t ht _ => ⟨rfl, by rw [ht]; exact hP, hS.F ht⟩) hS.2.2 dX10_drop_19
abbrev rmX3_isOne : Room := { frames := 0, cells := 0, slots := 0, locals := 0 }
set_option maxHeartbeats 4000000 in
set_option maxRecDepth 100000 in
theorem k_X3_isOne (l : Launch) {D : va_G} {cI cJ : ClassId} {ad : Nat → Nat} {u : tU} {v : tV} {a1 : Int32}  {r : Int32}  (h : pX3_isOne u v a1 = some r) : Met l yX3_isOne wsX3_isOne rmX3_isOne (va_Pc [.ref (ad 11), .int a1] (xPre D cI cJ (wA cI cJ ad u v))) (QcRead r) 0 0 (fun _ => False) := by
  refine Met.ofW (cc := cX3_isOne) (maxL := 2) (ret := (some .boolean)) (by decide) rfl ?_
  intro p e s m args below meth c s₁ B hml hv
  obtain ⟨rfl, hP, hK⟩ := hv
  have hx := B.exec
  have hb := B.bytes
  have hr := B.returns
  have hts := atoms_spec (ws := wsX3_isOne) B.pre
  have hown : s.vm.findClass RX3 = some m.cls := findClass_of_methodNamed B.named
  have hlocks := B.notSynchronized
  have hin3 : ∀ w ∈ u_ws RX3 TX3 3, w ∈ wsX3_isOne := fun _ h => List.mem_cons_of_mem _ (List.mem_append_right _ h)
  have hw1 := hts (.fieldLink RX3 18 "InstallDesk$Hosts" "count" "I") (List.mem_of_getElem? (i := 1) rfl)
  have hl := lv_entry ([.ref (ad 11), .int a1]) (n := 2) (Nat.le_of_ble_eq_true rfl)
  rw [lg_entry_eq]
  generalize (lg_sl ([.ref (ad 11), .int a1]) ++ List.replicate (2 - (lg_sl ([.ref (ad 11), .int a1])).length) Slot.unset).toArray = ls at hl ⊢
  have hl : lv_has ls 2 [(0, .ref (ad 11)), (1, .int a1)] := hl
  rw [pX3_isOne] at h
  refine lv_iload_n hx hb dX3_isOne_0 rfl (lv_at hl 1 rfl) ?_
  refine lv_if_lt (tgt := 16) hx hb dX3_isOne_1 (by decide) (fun c1 => ?_) (fun c1 => ?_)
  · have h := vz_t c1 h
    refine lv_iconst (v := (0 : Int32)) hx hb dX3_isOne_16 (by decide) ?_
    cases h
    exact W.zret hx hb hr nb0 (fun t ht _ => ⟨rfl, ht⟩) (fun q hq => absurd hq List.not_mem_nil) dX3_isOne_17
  · have h := vz_f c1 h
    refine lv_iload_n hx hb dX3_isOne_4 rfl (lv_at hl 1 rfl) ?_
    refine lv_aload_n hx hb dX3_isOne_5 rfl (lv_at hl 0 rfl) ?_
    refine za_geti (k := 0) hx hb hts hin3 hown hK hP zF_11_0 rfl (Nat.le_of_ble_eq_true rfl) (Or.inl hw1) dX3_isOne_6 ?_
    refine lv_icmp_ge (tgt := 16) hx hb dX3_isOne_9 (by decide) (fun c2 => ?_) (fun c2 => ?_)
    · have h := vz_t c2 h
      refine lv_iconst (v := (0 : Int32)) hx hb dX3_isOne_16 (by decide) ?_
      cases h
      exact W.zret hx hb hr nb0 (fun t ht _ => ⟨rfl, ht⟩) (fun q hq => absurd hq List.not_mem_nil) dX3_isOne_17
    · have h := vz_f c2 h
      refine lv_iconst (v := (1 : Int32)) hx hb dX3_isOne_12 (by decide) ?_
      refine lv_goto (tgt := 17) hx hb dX3_isOne_13 (by decide) ?_
      cases h
      exact W.zret hx hb hr nb1 (fun t ht _ => ⟨rfl, ht⟩) (fun q hq => absurd hq List.not_mem_nil) dX3_isOne_17
abbrev rmX10_isDay : Room := { frames := 1, cells := 0, slots := 0, locals := 22 }
set_option maxHeartbeats 4000000 in
set_option maxRecDepth 100000 in
theorem k_X10_isDay (l : Launch) {a0 : Int32}  {r : Int32}  (h : pX10_isDay a0 = some r) : Met l yX10_isDay wsX10_isDay rmX10_isDay (va_Pc [.int a0] (fun _ => True)) (QcRead r) 0 0 (fun _ => False) := by
  refine Met.ofW (cc := cX10_isDay) (maxL := 1) (ret := (some .boolean)) (by decide) rfl ?_
  intro p e s m args below meth c s₁ B hml hv
  obtain ⟨rfl, -⟩ := hv
  have hx := B.exec
  have hb := B.bytes
  have hr := B.returns
  have hts := atoms_spec (ws := wsX10_isDay) B.pre
  have hown : s.vm.findClass RX10 = some m.cls := findClass_of_methodNamed B.named
  have hlocks := B.notSynchronized
  have hl := lv_entry ([.int a0]) (n := 1) (Nat.le_of_ble_eq_true rfl)
  rw [lg_entry_eq]
  generalize (lg_sl ([.int a0]) ++ List.replicate (1 - (lg_sl ([.int a0])).length) Slot.unset).toArray = ls at hl ⊢
  have hl : lv_has ls 1 [(0, .int a0)] := hl
  rw [pX10_isDay] at h
  refine lv_iload_n hx hb dX10_isDay_0 rfl (lv_at hl 0 rfl) ?_
  refine lv_iconst (v := (0 : Int32)) hx hb dX10_isDay_1 (by decide) ?_
  refine lv_sipush (v := (9999 : Int32)) hx hb dX10_isDay_2 (by decide) ?_
  obtain ⟨r2, hc1, h⟩ := vz_b h
  refine za_callR (va_runS (As := [.int a0, .int (0 : Int32), .int (9999 : Int32)]) (rest := []) ⟨hx, hb, hml, hown, hts⟩ (k_X10_isWithin l hc1) (va_cwS 3 hts gX10_isDay_X10_isWithin rfl rfl rfl zd_X10_isWithin ⟨Nat.le_of_ble_eq_true rfl, Nat.le_of_ble_eq_true rfl⟩) xPre0 rfl rfl hl.1 rfl (lv_room (Nat.le_of_ble_eq_true rfl)) dX10_isDay_5 ⟨Nat.zero_le _, Nat.zero_le _⟩) ?_
  obtain ⟨hn, h⟩ := gb_s h
  cases h
  exact W.zret hx hb hr hn (fun t ht _ => ⟨rfl, ht⟩) (fun q hq => absurd hq List.not_mem_nil) dX10_isDay_8
abbrev rmX10_isVersion : Room := { frames := 1, cells := 0, slots := 0, locals := 22 }
set_option maxHeartbeats 4000000 in
set_option maxRecDepth 100000 in
theorem k_X10_isVersion (l : Launch) {a0 : Int32}  {r : Int32}  (h : pX10_isVersion a0 = some r) : Met l yX10_isVersion wsX10_isVersion rmX10_isVersion (va_Pc [.int a0] (fun _ => True)) (QcRead r) 0 0 (fun _ => False) := by
  refine Met.ofW (cc := cX10_isVersion) (maxL := 1) (ret := (some .boolean)) (by decide) rfl ?_
  intro p e s m args below meth c s₁ B hml hv
  obtain ⟨rfl, -⟩ := hv
  have hx := B.exec
  have hb := B.bytes
  have hr := B.returns
  have hts := atoms_spec (ws := wsX10_isVersion) B.pre
  have hown : s.vm.findClass RX10 = some m.cls := findClass_of_methodNamed B.named
  have hlocks := B.notSynchronized
  have hl := lv_entry ([.int a0]) (n := 1) (Nat.le_of_ble_eq_true rfl)
  rw [lg_entry_eq]
  generalize (lg_sl ([.int a0]) ++ List.replicate (1 - (lg_sl ([.int a0])).length) Slot.unset).toArray = ls at hl ⊢
  have hl : lv_has ls 1 [(0, .int a0)] := hl
  rw [pX10_isVersion] at h
  refine lv_iload_n hx hb dX10_isVersion_0 rfl (lv_at hl 0 rfl) ?_
  refine lv_iconst (v := (1 : Int32)) hx hb dX10_isVersion_1 (by decide) ?_
  refine lv_bipush (v := (9 : Int32)) hx hb dX10_isVersion_2 (by decide) ?_
  obtain ⟨r2, hc1, h⟩ := vz_b h
  refine za_callR (va_runS (As := [.int a0, .int (1 : Int32), .int (9 : Int32)]) (rest := []) ⟨hx, hb, hml, hown, hts⟩ (k_X10_isWithin l hc1) (va_cwS 3 hts gX10_isVersion_X10_isWithin rfl rfl rfl zd_X10_isWithin ⟨Nat.le_of_ble_eq_true rfl, Nat.le_of_ble_eq_true rfl⟩) xPre0 rfl rfl hl.1 rfl (lv_room (Nat.le_of_ble_eq_true rfl)) dX10_isVersion_4 ⟨Nat.zero_le _, Nat.zero_le _⟩) ?_
  obtain ⟨hn, h⟩ := gb_s h
  cases h
  exact W.zret hx hb hr hn (fun t ht _ => ⟨rfl, ht⟩) (fun q hq => absurd hq List.not_mem_nil) dX10_isVersion_7
abbrev rmX4_areName : Room := { frames := 1, cells := 0, slots := 0, locals := 22 }
set_option maxHeartbeats 4000000 in
set_option maxRecDepth 100000 in
theorem k_X4_areName (l : Launch) {D : va_G} {cI cJ : ClassId} {ad : Nat → Nat} {u : tU} {v : tV} {r : Int32}  (h : pX4_areName u v  = some r) : Met l yX4_areName wsX4_areName rmX4_areName (va_Pc [.ref (ad 1)] (xPre D cI cJ (wA cI cJ ad u v))) (QcRead r) 0 0 (fun _ => False) := by
  refine Met.ofW (cc := cX4_areName) (maxL := 2) (ret := (some .boolean)) (by decide) rfl ?_
  intro p e s m args below meth c s₁ B hml hv
  obtain ⟨rfl, hP, hK⟩ := hv
  have hx := B.exec
  have hb := B.bytes
  have hr := B.returns
  have hts := atoms_spec (ws := wsX4_areName) B.pre
  have hown : s.vm.findClass RX4 = some m.cls := findClass_of_methodNamed B.named
  have hlocks := B.notSynchronized
  have hin4 : ∀ w ∈ u_ws RX4 TX4 2, w ∈ wsX4_areName := fun _ h => List.mem_cons_of_mem _ (List.mem_append_right _ h)
  have hw1 := hts (.fieldLink RX4 15 "InstallDesk$Letters" "count" "I") (List.mem_of_getElem? (i := 1) rfl)
  have hw2 := hts (.fieldLink RX4 9 "InstallDesk$Letters" "row" "J") (List.mem_of_getElem? (i := 2) rfl)
  have hw3 := hts (.static yX10_signAt) (List.mem_of_getElem? (i := 3) rfl)
  have hw4 := hts (.initialized RX10) (List.mem_of_getElem? (i := 4) rfl)
  have hl := lv_entry ([.ref (ad 1)]) (n := 2) (Nat.le_of_ble_eq_true rfl)
  rw [lg_entry_eq]
  generalize (lg_sl ([.ref (ad 1)]) ++ List.replicate (2 - (lg_sl ([.ref (ad 1)])).length) Slot.unset).toArray = ls at hl ⊢
  have hl : lv_has ls 2 [(0, .ref (ad 1))] := hl
  have L2 : ∀  (n : Nat) (x1 : Int32) (ls : Array Slot) (o : (Int32) ⊕ (Unit)), pX4_areName_L2 u v n x1 = some o → lv_has ls 2 [(0, .ref (ad 1)), (1, .int x1)] → (∀ rr : Int32, o = .inl rr → rr = r) → (∀ (ls : Array Slot), o = .inr () → lv_has ls 2 [] → W p l e (headSpec wsX4_areName rmX4_areName).room s m [Value.ref (ad 1)].toArray below meth c s.heap [] 0 0 (MQ below (QcRead r) [Value.ref (ad 1)].toArray s 0 0 (fun _ => False)) (F0 m 31 ls [])) → W p l e (headSpec wsX4_areName rmX4_areName).room s m [Value.ref (ad 1)].toArray below meth c s.heap [] 0 0 (MQ below (QcRead r) [Value.ref (ad 1)].toArray s 0 0 (fun _ => False)) (F0 m 2 ls []) := by
    intro n
    induction n with
    | zero => intro x1 ls o h; cases h
    | succ n ih =>
      intro x1 ls o h hl hret hk
      rw [pX4_areName_L2] at h
      refine lv_iload_n hx hb dX4_areName_2 rfl (lv_at hl 1 rfl) ?_
      refine lv_aload_n hx hb dX4_areName_3 rfl (lv_at hl 0 rfl) ?_
      refine za_geti (k := 0) hx hb hts hin4 hown hK hP zF_1_0 rfl (Nat.le_of_ble_eq_true rfl) (Or.inl hw1) dX4_areName_4 ?_
      refine lv_icmp_ge (tgt := 31) hx hb dX4_areName_7 (by decide) (fun c1 => ?_) (fun c1 => ?_)
      · have h := vz_t c1 h
        cases h
        exact hk ls rfl (lv_sub hl [] rfl)
      · have h := vz_f c1 h
        refine lv_aload_n hx hb dX4_areName_10 rfl (lv_at hl 0 rfl) ?_
        refine za_getl (k := 1) hx hb hts hin4 hown hK hP zF_1_1 rfl (Nat.le_of_ble_eq_true rfl) (Or.inl hw2) dX4_areName_11 ?_
        refine lv_iload_n hx hb dX4_areName_14 rfl (lv_at hl 1 rfl) ?_
        obtain ⟨r3, hc2, h⟩ := vz_b h
        refine za_callR (va_runSN (As := [.long (v 0 0), .int x1]) (rest := []) ⟨hx, hb, hml, hown, hts⟩ (k_X10_signAt l hc2) ⟨va_cnB 2 hts gX4_areName_X10_signAt_n19 rfl rfl rfl (nw_343 hK.2) hw4 zd_X10_signAt ⟨Nat.le_of_ble_eq_true rfl, Nat.le_of_ble_eq_true rfl⟩, hw3, trivial⟩ xPre0 rfl rfl hl.1 rfl (lv_room (Nat.le_of_ble_eq_true rfl)) dX4_areName_15 ⟨Nat.zero_le _, Nat.zero_le _⟩) ?_
        refine lv_bipush (v := (26 : Int32)) hx hb dX4_areName_18 (by decide) ?_
        refine lv_icmp_le (tgt := 25) hx hb dX4_areName_20 (by decide) (fun c4 => ?_) (fun c4 => ?_)
        · have h := vz_t c4 h
          refine lv_iinc (v := (x1 + 1)) (lv' := [(1, .int (x1 + 1)), (0, .ref (ad 1))]) hx hb dX4_areName_25 hl (k := 1) rfl rfl (by decide) rfl (fun ls hl => ?_)
          refine lv_goto (tgt := 2) hx hb dX4_areName_28 (by decide) ?_
          exact ih (x1 + 1) ls o h (lv_sub hl [1, 0] rfl) hret hk
        · have h := vz_f c4 h
          refine lv_iconst (v := (0 : Int32)) hx hb dX4_areName_23 (by decide) ?_
          cases h
          have e9 := hret _ rfl
          cases e9
          exact W.zret hx hb hr nb0 (fun t ht _ => ⟨rfl, ht⟩) (fun q hq => absurd hq List.not_mem_nil) dX4_areName_24
  rw [pX4_areName] at h
  refine lv_iconst (v := (0 : Int32)) hx hb dX4_areName_0 (by decide) ?_
  refine lv_istore_n (lv' := [(1, .int (0 : Int32)), (0, .ref (ad 1))]) hx hb dX4_areName_1 rfl hl (by decide) rfl (fun ls hl => ?_)
  obtain ⟨o5, hL6, h⟩ := vz_b h
  refine L2 fuel (0 : Int32) ls o5 hL6 (lv_sub hl [1, 0] rfl) (fun rr e7 => by rw [e7] at h; exact Option.some.inj h) (fun ls e7 hl => ?_)
  try rw [e7] at h
  try dsimp only at h
  refine lv_iconst (v := (1 : Int32)) hx hb dX4_areName_31 (by decide) ?_
  cases h
  exact W.zret hx hb hr nb1 (fun t ht _ => ⟨rfl, ht⟩) (fun q hq => absurd hq List.not_mem_nil) dX4_areName_32
abbrev rmX4_take : Room := { frames := 0, cells := 0, slots := 0, locals := 0 }
set_option maxHeartbeats 4000000 in
set_option maxRecDepth 100000 in
theorem k_X4_take (l : Launch) {D : va_G} {cI cJ : ClassId} {ad : Nat → Nat} {u : tU} {v : tV} {A : Nat → Prop} (hD : zD A cI cJ ad) {r : Int64} {uz : tU} {vz : tV} (h : pX4_take u v  = some (r, uz, vz)) : Met l yX4_take wsX4_take rmX4_take (va_Pc [.ref (ad 1)] (xPre D cI cJ (wA cI cJ ad u v))) (xWl D cI cJ ad A r uz vz) 0 0 A := by
  refine Met.ofW (cc := cX4_take) (maxL := 3) (ret := (some .long)) (by decide) rfl ?_
  intro p e s m args below meth c s₁ B hml hv
  obtain ⟨rfl, hP, hK⟩ := hv
  have hx := B.exec
  have hb := B.bytes
  have hr := B.returns
  have hts := atoms_spec (ws := wsX4_take) B.pre
  have hown : s.vm.findClass RX4 = some m.cls := findClass_of_methodNamed B.named
  have hlocks := B.notSynchronized
  have hS : va_S A s.heap s.heap [] := va_S.rf
  have hin4 : ∀ w ∈ u_ws RX4 TX4 2, w ∈ wsX4_take := fun _ h => List.mem_cons_of_mem _ (List.mem_append_right _ h)
  have hw1 := hts (.fieldLink RX4 9 "InstallDesk$Letters" "row" "J") (List.mem_of_getElem? (i := 1) rfl)
  have hw2 := hts (.fieldLink RX4 15 "InstallDesk$Letters" "count" "I") (List.mem_of_getElem? (i := 2) rfl)
  have hl := lv_entry ([.ref (ad 1)]) (n := 3) (Nat.le_of_ble_eq_true rfl)
  rw [lg_entry_eq]
  generalize (lg_sl ([.ref (ad 1)]) ++ List.replicate (3 - (lg_sl ([.ref (ad 1)])).length) Slot.unset).toArray = ls at hl ⊢
  have hl : lv_has ls 3 [(0, .ref (ad 1))] := hl
  rw [pX4_take] at h
  refine lv_aload_n hx hb dX4_take_0 rfl (lv_at hl 0 rfl) ?_
  refine za_getl (k := 1) hx hb hts hin4 hown hK hP zF_1_1 rfl (Nat.le_of_ble_eq_true rfl) (Or.inl hw1) dX4_take_1 ?_
  refine lv_lstore_n (lv' := [(1, .long (v 0 0)), (0, .ref (ad 1))]) hx hb dX4_take_4 rfl hl (by decide) rfl (fun ls hl => ?_)
  refine lv_aload_n hx hb dX4_take_5 rfl (lv_at hl 1 rfl) ?_
  refine lv_lconst (v := (0 : Int64)) hx hb dX4_take_6 (by decide) ?_
  refine za_putl (k := 1) hx hb hts hin4 tyX4 tyX4_ok nmX4 hown hK hP hD hS zF_1_1 rfl (Nat.le_of_ble_eq_true rfl) (Or.inl hw1) rfl rfl rfl dX4_take_7 (fun H locs hP hS => ?_)
  refine lv_aload_n hx hb dX4_take_10 rfl (lv_at hl 1 rfl) ?_
  refine lv_iconst (v := (0 : Int32)) hx hb dX4_take_11 (by decide) ?_
  refine za_puti (k := 0) hx hb hts hin4 tyX4 tyX4_ok nmX4 hown hK hP hD hS zF_1_0 rfl (Nat.le_of_ble_eq_true rfl) (Or.inl hw2) rfl rfl rfl dX4_take_12 (fun H locs hP hS => ?_)
  refine lv_lload_n hx hb dX4_take_15 rfl (lv_at hl 0 rfl) ?_
  cases h
  exact W.lret hx hb hr (fun t ht _ => ⟨rfl, by rw [ht]; exact hP, hS.F ht⟩) hS.2.2 dX4_take_16
abbrev rmX1_add : Room := { frames := 0, cells := 0, slots := 0, locals := 0 }
set_option maxHeartbeats 4000000 in
set_option maxRecDepth 100000 in
theorem k_X1_add (l : Launch) {D : va_G} {cI cJ : ClassId} {ad : Nat → Nat} {u : tU} {v : tV} {A : Nat → Prop} (hD : zD A cI cJ ad) {a1 : Int64} {a3 : Int32} {a4 : Int32} {a5 : Int32}  {r : Int32} {uz : tU} {vz : tV} (h : pX1_add u v a1 a3 a4 a5 = some (r, uz, vz)) : Met l yX1_add wsX1_add rmX1_add (va_Pc [.ref (ad 14), .long a1, .int a3, .int a4, .int a5] (xPre D cI cJ (wA cI cJ ad u v))) (xWi D cI cJ ad A r uz vz) 0 0 A := by
  refine Met.ofW (cc := cX1_add) (maxL := 6) (ret := (some .int)) (by decide) rfl ?_
  intro p e s m args below meth c s₁ B hml hv
  obtain ⟨rfl, hP, hK⟩ := hv
  have hx := B.exec
  have hb := B.bytes
  have hr := B.returns
  have hts := atoms_spec (ws := wsX1_add) B.pre
  have hown : s.vm.findClass RX1 = some m.cls := findClass_of_methodNamed B.named
  have hlocks := B.notSynchronized
  have hS : va_S A s.heap s.heap [] := va_S.rf
  have hin1 : ∀ w ∈ u_ws RX1 TX1 5, w ∈ wsX1_add := fun _ h => List.mem_cons_of_mem _ (List.mem_append_right _ h)
  have hw1 := hts (.fieldLink RX1 9 "InstallDesk$Finds" "names" "[J") (List.mem_of_getElem? (i := 1) rfl)
  have hw2 := hts (.fieldLink RX1 25 "InstallDesk$Finds" "count" "I") (List.mem_of_getElem? (i := 2) rfl)
  have hw3 := hts (.fieldLink RX1 15 "InstallDesk$Finds" "hosts" "[I") (List.mem_of_getElem? (i := 3) rfl)
  have hw4 := hts (.fieldLink RX1 19 "InstallDesk$Finds" "days" "[I") (List.mem_of_getElem? (i := 4) rfl)
  have hw5 := hts (.fieldLink RX1 22 "InstallDesk$Finds" "versions" "[I") (List.mem_of_getElem? (i := 5) rfl)
  have hl := lv_entry ([.ref (ad 14), .long a1, .int a3, .int a4, .int a5]) (n := 6) (Nat.le_of_ble_eq_true rfl)
  rw [lg_entry_eq]
  generalize (lg_sl ([.ref (ad 14), .long a1, .int a3, .int a4, .int a5]) ++ List.replicate (6 - (lg_sl ([.ref (ad 14), .long a1, .int a3, .int a4, .int a5])).length) Slot.unset).toArray = ls at hl ⊢
  have hl : lv_has ls 6 [(0, .ref (ad 14)), (1, .long a1), (3, .int a3), (4, .int a4), (5, .int a5)] := hl
  rw [pX1_add] at h
  refine lv_aload_n hx hb dX1_add_0 rfl (lv_at hl 0 rfl) ?_
  refine za_getr (k := 1) hx hb hts hin1 hown hK hP zF_14_1 rfl (Nat.le_of_ble_eq_true rfl) (Or.inl hw1) dX1_add_1 ?_
  refine lv_aload_n hx hb dX1_add_4 rfl (lv_at hl 0 rfl) ?_
  refine za_geti (k := 0) hx hb hts hin1 hown hK hP zF_14_0 rfl (Nat.le_of_ble_eq_true rfl) (Or.inl hw2) dX1_add_5 ?_
  refine lv_lload_n hx hb dX1_add_8 rfl (lv_at hl 1 rfl) ?_
  obtain ⟨g1, h⟩ := gd_s h
  refine za_lst hx hb hK hP hD hS zJ_15 g1 dX1_add_9 (fun H locs hP hS => ?_)
  refine lv_aload_n hx hb dX1_add_10 rfl (lv_at hl 0 rfl) ?_
  refine za_getr (k := 2) hx hb hts hin1 hown hK hP zF_14_2 rfl (Nat.le_of_ble_eq_true rfl) (Or.inl hw3) dX1_add_11 ?_
  refine lv_aload_n hx hb dX1_add_14 rfl (lv_at hl 0 rfl) ?_
  refine za_geti (k := 0) hx hb hts hin1 hown hK hP zF_14_0 rfl (Nat.le_of_ble_eq_true rfl) (Or.inl hw2) dX1_add_15 ?_
  refine lv_iload_n hx hb dX1_add_18 rfl (lv_at hl 2 rfl) ?_
  obtain ⟨g2, h⟩ := gd_s h
  refine za_ist hx hb hK hP hD hS zI_16 g2 dX1_add_19 (fun H locs hP hS => ?_)
  refine lv_aload_n hx hb dX1_add_20 rfl (lv_at hl 0 rfl) ?_
  refine za_getr (k := 3) hx hb hts hin1 hown hK hP zF_14_3 rfl (Nat.le_of_ble_eq_true rfl) (Or.inl hw4) dX1_add_21 ?_
  refine lv_aload_n hx hb dX1_add_24 rfl (lv_at hl 0 rfl) ?_
  refine za_geti (k := 0) hx hb hts hin1 hown hK hP zF_14_0 rfl (Nat.le_of_ble_eq_true rfl) (Or.inl hw2) dX1_add_25 ?_
  refine lv_iload hx hb dX1_add_28 (lv_at hl 3 rfl) ?_
  obtain ⟨g3, h⟩ := gd_s h
  refine za_ist hx hb hK hP hD hS zI_17 g3 dX1_add_30 (fun H locs hP hS => ?_)
  refine lv_aload_n hx hb dX1_add_31 rfl (lv_at hl 0 rfl) ?_
  refine za_getr (k := 4) hx hb hts hin1 hown hK hP zF_14_4 rfl (Nat.le_of_ble_eq_true rfl) (Or.inl hw5) dX1_add_32 ?_
  refine lv_aload_n hx hb dX1_add_35 rfl (lv_at hl 0 rfl) ?_
  refine za_geti (k := 0) hx hb hts hin1 hown hK hP zF_14_0 rfl (Nat.le_of_ble_eq_true rfl) (Or.inl hw2) dX1_add_36 ?_
  refine lv_iload hx hb dX1_add_39 (lv_at hl 4 rfl) ?_
  obtain ⟨g4, h⟩ := gd_s h
  refine za_ist hx hb hK hP hD hS zI_18 g4 dX1_add_41 (fun H locs hP hS => ?_)
  refine lv_aload_n hx hb dX1_add_42 rfl (lv_at hl 0 rfl) ?_
  refine lv_dup hx hb dX1_add_43 rfl ?_
  refine za_geti (k := 0) hx hb hts hin1 hown hK hP zF_14_0 rfl (Nat.le_of_ble_eq_true rfl) (Or.inl hw2) dX1_add_44 ?_
  refine lv_iconst (v := (1 : Int32)) hx hb dX1_add_47 (by decide) ?_
  refine lv_iadd hx hb dX1_add_48 ?_
  refine za_puti (k := 0) hx hb hts hin1 tyX1 tyX1_ok nmX1 hown hK hP hD hS zF_14_0 rfl (Nat.le_of_ble_eq_true rfl) (Or.inl hw2) rfl rfl rfl dX1_add_49 (fun H locs hP hS => ?_)
  refine lv_aload_n hx hb dX1_add_52 rfl (lv_at hl 0 rfl) ?_
  refine za_geti (k := 0) hx hb hts hin1 hown hK hP zF_14_0 rfl (Nat.le_of_ble_eq_true rfl) (Or.inl hw2) dX1_add_53 ?_
  refine lv_iconst (v := (1 : Int32)) hx hb dX1_add_56 (by decide) ?_
  refine lv_isub hx hb dX1_add_57 ?_
  cases h
  exact W.iret hx hb hr (fun t ht _ => ⟨rfl, by rw [ht]; exact hP, hS.F ht⟩) hS.2.2 dX1_add_58
abbrev rmX10_find : Room := { frames := 2, cells := 0, slots := 0, locals := 43 }
set_option maxHeartbeats 4000000 in
set_option maxRecDepth 100000 in
theorem k_X10_find (l : Launch) {D : va_G} {cI cJ : ClassId} {ad : Nat → Nat} {u : tU} {v : tV} {A : Nat → Prop} (hD : zD A cI cJ ad) {a1 : Int32} {a2 : Int32} {a3 : Int32}  {r : Int32} {uz : tU} {vz : tV} (h : pX10_find u v a1 a2 a3 = some (r, uz, vz)) : Met l yX10_find wsX10_find rmX10_find (va_Pc [.ref (ad 0), .int a1, .int a2, .int a3] (xPre D cI cJ (wA cI cJ ad u v))) (xWi D cI cJ ad A r uz vz) 0 0 A := by
  refine Met.ofW (cc := cX10_find) (maxL := 7) (ret := (some .int)) (by decide) rfl ?_
  intro p e s m args below meth c s₁ B hml hv
  obtain ⟨rfl, hP, hK⟩ := hv
  have hx := B.exec
  have hb := B.bytes
  have hr := B.returns
  have hts := atoms_spec (ws := wsX10_find) B.pre
  have hown : s.vm.findClass RX10 = some m.cls := findClass_of_methodNamed B.named
  have hlocks := B.notSynchronized
  have hS : va_S A s.heap s.heap [] := va_S.rf
  have hin0 : ∀ w ∈ u_ws RX0 TX0 8, w ∈ wsX10_find := fun _ h => List.mem_cons_of_mem _ (List.mem_append_left _ (List.mem_append_left _ (List.mem_append_left _ (List.mem_append_right _ h))))
  have hin1 : ∀ w ∈ u_ws RX1 TX1 5, w ∈ wsX10_find := fun _ h => List.mem_cons_of_mem _ (List.mem_append_left _ (List.mem_append_left _ (List.mem_append_right _ h)))
  have hin10 : ∀ w ∈ u_ws RX10 TX10 7, w ∈ wsX10_find := fun _ h => List.mem_cons_of_mem _ (List.mem_append_left _ (List.mem_append_left _ (List.mem_append_left _ (List.mem_append_left _ (List.mem_append_right _ h)))))
  have hw1 := hts (.fieldLink RX10 19 "InstallDesk" "books" "LInstallDesk$Books;") (List.mem_of_getElem? (i := 1) rfl)
  have hw2 := hts (.fieldLink RX10 10 "InstallDesk" "letters" "LInstallDesk$Letters;") (List.mem_of_getElem? (i := 2) rfl)
  have hw3 := hts (.instanceMethod yX3_isOne) (List.mem_of_getElem? (i := 3) rfl)
  have hw4 := hts (.initialized RX3) (List.mem_of_getElem? (i := 4) rfl)
  have hw5 := hts (.selects RX3 yX3_isOne yX3_isOne) (List.mem_of_getElem? (i := 5) rfl)
  have hw23 := hts (.instanceMethod yX4_areName) (List.mem_of_getElem? (i := 23) rfl)
  have hw24 := hts (.initialized RX4) (List.mem_of_getElem? (i := 24) rfl)
  have hw25 := hts (.selects RX4 yX4_areName yX4_areName) (List.mem_of_getElem? (i := 25) rfl)
  have hw31 := hts (.instanceMethod yX4_take) (List.mem_of_getElem? (i := 31) rfl)
  have hw32 := hts (.selects RX4 yX4_take yX4_take) (List.mem_of_getElem? (i := 32) rfl)
  have hw34 := hts (.instanceMethod yX1_add) (List.mem_of_getElem? (i := 34) rfl)
  have hw35 := hts (.initialized RX1) (List.mem_of_getElem? (i := 35) rfl)
  have hw36 := hts (.selects RX1 yX1_add yX1_add) (List.mem_of_getElem? (i := 36) rfl)
  have hl := lv_entry ([.ref (ad 0), .int a1, .int a2, .int a3]) (n := 7) (Nat.le_of_ble_eq_true rfl)
  rw [lg_entry_eq]
  generalize (lg_sl ([.ref (ad 0), .int a1, .int a2, .int a3]) ++ List.replicate (7 - (lg_sl ([.ref (ad 0), .int a1, .int a2, .int a3])).length) Slot.unset).toArray = ls at hl ⊢
  have hl : lv_has ls 7 [(0, .ref (ad 0)), (1, .int a1), (2, .int a2), (3, .int a3)] := hl
  rw [pX10_find] at h
  refine lv_aload_n hx hb dX10_find_0 rfl (lv_at hl 0 rfl) ?_
  refine za_getr (k := 1) hx hb hts hin10 hown hK hP zF_0_1 rfl (Nat.le_of_ble_eq_true rfl) (Or.inl hw1) dX10_find_1 ?_
  refine za_getr (k := 2) hx hb hts hin0 hown hK hP zF_2_2 rfl (Nat.le_of_ble_eq_true rfl) (nw_218 hK.2) dX10_find_4 ?_
  refine lv_iload_n hx hb dX10_find_7 rfl (lv_at hl 1 rfl) ?_
  obtain ⟨r2, hc1, h⟩ := vz_b h
  refine za_callR (va_runVN (As := [.int a1]) (rest := []) ⟨hx, hb, hml, hown, hts⟩ (k_X3_isOne l (D := D) (cI := cI) (cJ := cJ) (ad := ad) hc1) ⟨va_cnB 1 hts gX10_find_X3_isOne_n123 rfl rfl rfl (nw_391 hK.2) hw4 zd_X3_isOne ⟨Nat.le_of_ble_eq_true rfl, Nat.le_of_ble_eq_true rfl⟩, hw3, hw5⟩ (xPreV (ci := 3) hK hP rfl zO_11) rfl rfl hl.1 rfl (lv_room (Nat.le_of_ble_eq_true rfl)) dX10_find_8 ⟨Nat.zero_le _, Nat.zero_le _⟩) ?_
  refine lv_if_eq (tgt := 28) hx hb dX10_find_11 (by decide) (fun c3 => ?_) (fun c3 => ?_)
  · have h := vz_t c3 h
    refine lv_aload_n hx hb dX10_find_28 rfl (lv_at hl 0 rfl) ?_
    refine lv_iconst (v := (-1 : Int32)) hx hb dX10_find_29 (by decide) ?_
    obtain ⟨⟨r8, u5, v6⟩, hc4, h⟩ := vz_b h
    try dsimp only at h
    refine za_callWi (va_runV (As := [.int (-1 : Int32)]) (rest := []) ⟨hx, hb, hml, hown, hts⟩ (k_X10_finding l (D := D) (cI := cI) (cJ := cJ) (ad := ad) hD hc4) (cwV 1 hts gX10_find_X10_finding rfl rfl rfl ⟨rfl, zd_X10_finding⟩ ⟨Nat.le_of_ble_eq_true rfl, Nat.le_of_ble_eq_true rfl⟩) (xPreV (ci := 10) hK hP rfl zO_0) rfl rfl hl.1 rfl (lv_room (Nat.le_of_ble_eq_true rfl)) dX10_find_30 ⟨Nat.zero_le _, Nat.zero_le _⟩) hS (fun H locs hP hS => ?_)
    cases h
    exact W.iret hx hb hr (fun t ht _ => ⟨rfl, by rw [ht]; exact hP, hS.F ht⟩) hS.2.2 dX10_find_33
  · have h := vz_f c3 h
    refine lv_iload_n hx hb dX10_find_14 rfl (lv_at hl 2 rfl) ?_
    obtain ⟨r10, hc9, h⟩ := vz_b h
    refine za_callR (va_runS (As := [.int a2]) (rest := []) ⟨hx, hb, hml, hown, hts⟩ (k_X10_isDay l hc9) (va_cwS 1 hts gX10_find_X10_isDay rfl rfl rfl zd_X10_isDay ⟨Nat.le_of_ble_eq_true rfl, Nat.le_of_ble_eq_true rfl⟩) xPre0 rfl rfl hl.1 rfl (lv_room (Nat.le_of_ble_eq_true rfl)) dX10_find_15 ⟨Nat.zero_le _, Nat.zero_le _⟩) ?_
    refine lv_if_eq (tgt := 28) hx hb dX10_find_18 (by decide) (fun c11 => ?_) (fun c11 => ?_)
    · have h := vz_t c11 h
      refine lv_aload_n hx hb dX10_find_28 rfl (lv_at hl 0 rfl) ?_
      refine lv_iconst (v := (-1 : Int32)) hx hb dX10_find_29 (by decide) ?_
      obtain ⟨⟨r16, u13, v14⟩, hc12, h⟩ := vz_b h
      try dsimp only at h
      refine za_callWi (va_runV (As := [.int (-1 : Int32)]) (rest := []) ⟨hx, hb, hml, hown, hts⟩ (k_X10_finding l (D := D) (cI := cI) (cJ := cJ) (ad := ad) hD hc12) (cwV 1 hts gX10_find_X10_finding rfl rfl rfl ⟨rfl, zd_X10_finding⟩ ⟨Nat.le_of_ble_eq_true rfl, Nat.le_of_ble_eq_true rfl⟩) (xPreV (ci := 10) hK hP rfl zO_0) rfl rfl hl.1 rfl (lv_room (Nat.le_of_ble_eq_true rfl)) dX10_find_30 ⟨Nat.zero_le _, Nat.zero_le _⟩) hS (fun H locs hP hS => ?_)
      cases h
      exact W.iret hx hb hr (fun t ht _ => ⟨rfl, by rw [ht]; exact hP, hS.F ht⟩) hS.2.2 dX10_find_33
    · have h := vz_f c11 h
      refine lv_iload_n hx hb dX10_find_21 rfl (lv_at hl 3 rfl) ?_
      obtain ⟨r18, hc17, h⟩ := vz_b h
      refine za_callR (va_runS (As := [.int a3]) (rest := []) ⟨hx, hb, hml, hown, hts⟩ (k_X10_isVersion l hc17) (va_cwS 1 hts gX10_find_X10_isVersion rfl rfl rfl zd_X10_isVersion ⟨Nat.le_of_ble_eq_true rfl, Nat.le_of_ble_eq_true rfl⟩) xPre0 rfl rfl hl.1 rfl (lv_room (Nat.le_of_ble_eq_true rfl)) dX10_find_22 ⟨Nat.zero_le _, Nat.zero_le _⟩) ?_
      refine lv_if_ne (tgt := 34) hx hb dX10_find_25 (by decide) (fun c19 => ?_) (fun c19 => ?_)
      · have h := vz_f c19 h
        refine lv_aload_n hx hb dX10_find_34 rfl (lv_at hl 0 rfl) ?_
        refine za_getr (k := 1) hx hb hts hin10 hown hK hP zF_0_1 rfl (Nat.le_of_ble_eq_true rfl) (Or.inl hw1) dX10_find_35 ?_
        refine za_getr (k := 3) hx hb hts hin0 hown hK hP zF_2_3 rfl (Nat.le_of_ble_eq_true rfl) (nw_221 hK.2) dX10_find_38 ?_
        refine za_geti (k := 0) hx hb hts hin1 hown hK hP zF_14_0 rfl (Nat.le_of_ble_eq_true rfl) (nw_127 hK.2) dX10_find_41 ?_
        refine lv_bipush (v := (40 : Int32)) hx hb dX10_find_44 (by decide) ?_
        refine lv_icmp_lt (tgt := 56) hx hb dX10_find_46 (by decide) (fun c20 => ?_) (fun c20 => ?_)
        · have h := vz_t c20 h
          refine lv_aload_n hx hb dX10_find_56 rfl (lv_at hl 0 rfl) ?_
          refine za_getr (k := 0) hx hb hts hin10 hown hK hP zF_0_0 rfl (Nat.le_of_ble_eq_true rfl) (Or.inl hw2) dX10_find_57 ?_
          obtain ⟨r22, hc21, h⟩ := vz_b h
          refine za_callR (va_runVN (As := []) (rest := []) ⟨hx, hb, hml, hown, hts⟩ (k_X4_areName l (D := D) (cI := cI) (cJ := cJ) (ad := ad) hc21) ⟨va_cnB 0 hts gX10_find_X4_areName_n134 rfl rfl rfl (nw_405 hK.2) hw24 zd_X4_areName ⟨Nat.le_of_ble_eq_true rfl, Nat.le_of_ble_eq_true rfl⟩, hw23, hw25⟩ (xPreV (ci := 4) hK hP rfl zO_1) rfl rfl hl.1 rfl (lv_room (Nat.le_of_ble_eq_true rfl)) dX10_find_60 ⟨Nat.zero_le _, Nat.zero_le _⟩) ?_
          refine lv_istore (lv' := [(4, .int r22), (0, .ref (ad 0)), (1, .int a1), (2, .int a2), (3, .int a3)]) hx hb dX10_find_63 hl (by decide) rfl (fun ls hl => ?_)
          refine lv_aload_n hx hb dX10_find_65 rfl (lv_at hl 1 rfl) ?_
          refine za_getr (k := 0) hx hb hts hin10 hown hK hP zF_0_0 rfl (Nat.le_of_ble_eq_true rfl) (Or.inl hw2) dX10_find_66 ?_
          obtain ⟨⟨r27, u24, v25⟩, hc23, h⟩ := vz_b h
          try dsimp only at h
          refine za_callWl (va_runVN (As := []) (rest := []) ⟨hx, hb, hml, hown, hts⟩ (k_X4_take l (D := D) (cI := cI) (cJ := cJ) (ad := ad) hD hc23) ⟨va_cnB 0 hts gX10_find_X4_take_n92 rfl rfl rfl (nw_346 hK.2) hw24 zd_X4_take ⟨Nat.le_of_ble_eq_true rfl, Nat.le_of_ble_eq_true rfl⟩, hw31, hw32⟩ (xPreV (ci := 4) hK hP rfl zO_1) rfl rfl hl.1 rfl (lv_room (Nat.le_of_ble_eq_true rfl)) dX10_find_69 ⟨Nat.zero_le _, Nat.zero_le _⟩) hS (fun H locs hP hS => ?_)
          refine lv_lstore (lv' := [(5, .long r27), (4, .int r22), (0, .ref (ad 0)), (1, .int a1), (2, .int a2), (3, .int a3)]) hx hb dX10_find_72 hl (by decide) rfl (fun ls hl => ?_)
          refine lv_iload hx hb dX10_find_74 (lv_at hl 1 rfl) ?_
          refine lv_if_eq (tgt := 97) hx hb dX10_find_76 (by decide) (fun c28 => ?_) (fun c28 => ?_)
          · have h := vz_t c28 h
            refine lv_aload_n hx hb dX10_find_97 rfl (lv_at hl 2 rfl) ?_
            refine lv_bipush (v := (-7 : Int32)) hx hb dX10_find_98 (by decide) ?_
            obtain ⟨⟨r33, u30, v31⟩, hc29, h⟩ := vz_b h
            try dsimp only at h
            refine za_callWi (va_runV (As := [.int (-7 : Int32)]) (rest := []) ⟨hx, hb, hml, hown, hts⟩ (k_X10_finding l (D := D) (cI := cI) (cJ := cJ) (ad := ad) hD hc29) (cwV 1 hts gX10_find_X10_finding rfl rfl rfl ⟨rfl, zd_X10_finding⟩ ⟨Nat.le_of_ble_eq_true rfl, Nat.le_of_ble_eq_true rfl⟩) (xPreV (ci := 10) hK hP rfl zO_0) rfl rfl hl.1 rfl (lv_room (Nat.le_of_ble_eq_true rfl)) dX10_find_100 ⟨Nat.zero_le _, Nat.zero_le _⟩) hS (fun H locs hP hS => ?_)
            cases h
            exact W.iret hx hb hr (fun t ht _ => ⟨rfl, by rw [ht]; exact hP, hS.F ht⟩) hS.2.2 dX10_find_103
          · have h := vz_f c28 h
            refine lv_aload_n hx hb dX10_find_79 rfl (lv_at hl 2 rfl) ?_
            refine za_getr (k := 1) hx hb hts hin10 hown hK hP zF_0_1 rfl (Nat.le_of_ble_eq_true rfl) (Or.inl hw1) dX10_find_80 ?_
            refine za_getr (k := 3) hx hb hts hin0 hown hK hP zF_2_3 rfl (Nat.le_of_ble_eq_true rfl) (nw_221 hK.2) dX10_find_83 ?_
            refine lv_lload hx hb dX10_find_86 (lv_at hl 0 rfl) ?_
            refine lv_iload_n hx hb dX10_find_88 rfl (lv_at hl 3 rfl) ?_
            refine lv_iload_n hx hb dX10_find_89 rfl (lv_at hl 4 rfl) ?_
            refine lv_iload_n hx hb dX10_find_90 rfl (lv_at hl 5 rfl) ?_
            obtain ⟨⟨r38, u35, v36⟩, hc34, h⟩ := vz_b h
            try dsimp only at h
            refine za_callWi (va_runVN (As := [.long r27, .int a1, .int a2, .int a3]) (rest := []) ⟨hx, hb, hml, hown, hts⟩ (k_X1_add l (D := D) (cI := cI) (cJ := cJ) (ad := ad) hD hc34) ⟨va_cnB 4 hts gX10_find_X1_add_n137 rfl rfl rfl (nw_409 hK.2) hw35 zd_X1_add ⟨Nat.le_of_ble_eq_true rfl, Nat.le_of_ble_eq_true rfl⟩, hw34, hw36⟩ (xPreV (ci := 1) hK hP rfl zO_14) rfl rfl hl.1 rfl (lv_room (Nat.le_of_ble_eq_true rfl)) dX10_find_91 ⟨Nat.zero_le _, Nat.zero_le _⟩) hS (fun H locs hP hS => ?_)
            refine lv_goto (tgt := 103) hx hb dX10_find_94 (by decide) ?_
            cases h
            exact W.iret hx hb hr (fun t ht _ => ⟨rfl, by rw [ht]; exact hP, hS.F ht⟩) hS.2.2 dX10_find_103
        · have h := vz_f c20 h
          refine lv_aload_n hx hb dX10_find_49 rfl (lv_at hl 0 rfl) ?_
          refine lv_bipush (v := (-3 : Int32)) hx hb dX10_find_50 (by decide) ?_
          obtain ⟨⟨r43, u40, v41⟩, hc39, h⟩ := vz_b h
          try dsimp only at h
          refine za_callWi (va_runV (As := [.int (-3 : Int32)]) (rest := []) ⟨hx, hb, hml, hown, hts⟩ (k_X10_finding l (D := D) (cI := cI) (cJ := cJ) (ad := ad) hD hc39) (cwV 1 hts gX10_find_X10_finding rfl rfl rfl ⟨rfl, zd_X10_finding⟩ ⟨Nat.le_of_ble_eq_true rfl, Nat.le_of_ble_eq_true rfl⟩) (xPreV (ci := 10) hK hP rfl zO_0) rfl rfl hl.1 rfl (lv_room (Nat.le_of_ble_eq_true rfl)) dX10_find_52 ⟨Nat.zero_le _, Nat.zero_le _⟩) hS (fun H locs hP hS => ?_)
          cases h
          exact W.iret hx hb hr (fun t ht _ => ⟨rfl, by rw [ht]; exact hP, hS.F ht⟩) hS.2.2 dX10_find_55
      · have h := vz_t c19 h
        refine lv_aload_n hx hb dX10_find_28 rfl (lv_at hl 0 rfl) ?_
        refine lv_iconst (v := (-1 : Int32)) hx hb dX10_find_29 (by decide) ?_
        obtain ⟨⟨r48, u45, v46⟩, hc44, h⟩ := vz_b h
        try dsimp only at h
        refine za_callWi (va_runV (As := [.int (-1 : Int32)]) (rest := []) ⟨hx, hb, hml, hown, hts⟩ (k_X10_finding l (D := D) (cI := cI) (cJ := cJ) (ad := ad) hD hc44) (cwV 1 hts gX10_find_X10_finding rfl rfl rfl ⟨rfl, zd_X10_finding⟩ ⟨Nat.le_of_ble_eq_true rfl, Nat.le_of_ble_eq_true rfl⟩) (xPreV (ci := 10) hK hP rfl zO_0) rfl rfl hl.1 rfl (lv_room (Nat.le_of_ble_eq_true rfl)) dX10_find_30 ⟨Nat.zero_le _, Nat.zero_le _⟩) hS (fun H locs hP hS => ?_)
        cases h
        exact W.iret hx hb hr (fun t ht _ => ⟨rfl, by rw [ht]; exact hP, hS.F ht⟩) hS.2.2 dX10_find_33
