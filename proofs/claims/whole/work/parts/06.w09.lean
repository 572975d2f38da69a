abbrev rmX11_isIn : Room := { frames := 0, cells := 0, slots := 0, locals := 0 }
set_option maxHeartbeats 4000000 in
set_option maxRecDepth 100000 in
theorem k_X11_isIn (l : Launch) {a0 : Int32} {a1 : Int32} {a2 : Int32}  {r : Int32}  (h : pX11_isIn a0 a1 a2 = some r) : Met l yX11_isIn wsX11_isIn rmX11_isIn (va_Pc [.int a0, .int a1, .int a2] (fun _ => True)) (QcRead r) 0 0 (fun _ => False) := by
  refine Met.ofW (cc := cX11_isIn) (maxL := 3) (ret := (some .boolean)) (by decide) rfl ?_
  intro p e s m args below meth c s₁ B hml hv
  obtain ⟨rfl, -⟩ := hv
  have hx := B.exec
  have hb := B.bytes
  have hr := B.returns
  have hts := atoms_spec (ws := wsX11_isIn) B.pre
  have hown : s.vm.findClass RX11 = some m.cls := findClass_of_methodNamed B.named
  have hlocks := B.notSynchronized
  have hl := lv_entry ([.int a0, .int a1, .int a2]) (n := 3) (Nat.le_of_ble_eq_true rfl)
  rw [lg_entry_eq]
  generalize (lg_sl ([.int a0, .int a1, .int a2]) ++ List.replicate (3 - (lg_sl ([.int a0, .int a1, .int a2])).length) Slot.unset).toArray = ls at hl ⊢
  have hl : lv_has ls 3 [(0, .int a0), (1, .int a1), (2, .int a2)] := hl
  rw [pX11_isIn] at h
  refine lv_iload_n hx hb dX11_isIn_0 rfl (lv_at hl 0 rfl) ?_
  refine lv_iload_n hx hb dX11_isIn_1 rfl (lv_at hl 1 rfl) ?_
  refine lv_icmp_lt (tgt := 14) hx hb dX11_isIn_2 (by decide) (fun c1 => ?_) (fun c1 => ?_)
  · have h := vz_t c1 h
    refine lv_iconst (v := (0 : Int32)) hx hb dX11_isIn_14 (by decide) ?_
    cases h
    exact W.zret hx hb hr nb0 (fun t ht _ => ⟨rfl, ht⟩) (fun q hq => absurd hq List.not_mem_nil) dX11_isIn_15
  · have h := vz_f c1 h
    refine lv_iload_n hx hb dX11_isIn_5 rfl (lv_at hl 0 rfl) ?_
    refine lv_iload_n hx hb dX11_isIn_6 rfl (lv_at hl 2 rfl) ?_
    refine lv_icmp_gt (tgt := 14) hx hb dX11_isIn_7 (by decide) (fun c2 => ?_) (fun c2 => ?_)
    · have h := vz_t c2 h
      refine lv_iconst (v := (0 : Int32)) hx hb dX11_isIn_14 (by decide) ?_
      cases h
      exact W.zret hx hb hr nb0 (fun t ht _ => ⟨rfl, ht⟩) (fun q hq => absurd hq List.not_mem_nil) dX11_isIn_15
    · have h := vz_f c2 h
      refine lv_iconst (v := (1 : Int32)) hx hb dX11_isIn_10 (by decide) ?_
      refine lv_goto (tgt := 15) hx hb dX11_isIn_11 (by decide) ?_
      cases h
      exact W.zret hx hb hr nb1 (fun t ht _ => ⟨rfl, ht⟩) (fun q hq => absurd hq List.not_mem_nil) dX11_isIn_15
abbrev rmX11_productAt : Room := { frames := 0, cells := 0, slots := 0, locals := 0 }
set_option maxHeartbeats 4000000 in
set_option maxRecDepth 100000 in
theorem k_X11_productAt (l : Launch) {D : va_G} {cI cJ : ClassId} {ad : Nat → Nat} {u : tU} {v : tV} {a1 : Int32} {a2 : Int32}  {r : Int32}  (h : pX11_productAt u v a1 a2 = some r) : Met l yX11_productAt wsX11_productAt rmX11_productAt (va_Pc [.ref (ad 64), .int a1, .int a2] (xPre D cI cJ (wA cI cJ ad u v))) (QcRead r) 0 0 (fun _ => False) := by
  refine Met.ofW (cc := cX11_productAt) (maxL := 3) (ret := (some .int)) (by decide) rfl ?_
  intro p e s m args below meth c s₁ B hml hv
  obtain ⟨rfl, hP, hK⟩ := hv
  have hx := B.exec
  have hb := B.bytes
  have hr := B.returns
  have hts := atoms_spec (ws := wsX11_productAt) B.pre
  have hown : s.vm.findClass RX11 = some m.cls := findClass_of_methodNamed B.named
  have hlocks := B.notSynchronized
  have hin11 : ∀ w ∈ u_ws RX11 TX11 10, w ∈ wsX11_productAt := fun _ h => List.mem_cons_of_mem _ (List.mem_append_right _ h)
  have hw1 := hts (.fieldLink RX11 13 "InstallDeskModel" "book" "[I") (List.mem_of_getElem? (i := 1) rfl)
  have hl := lv_entry ([.ref (ad 64), .int a1, .int a2]) (n := 3) (Nat.le_of_ble_eq_true rfl)
  rw [lg_entry_eq]
  generalize (lg_sl ([.ref (ad 64), .int a1, .int a2]) ++ List.replicate (3 - (lg_sl ([.ref (ad 64), .int a1, .int a2])).length) Slot.unset).toArray = ls at hl ⊢
  have hl : lv_has ls 3 [(0, .ref (ad 64)), (1, .int a1), (2, .int a2)] := hl
  rw [pX11_productAt] at h
  refine lv_aload_n hx hb dX11_productAt_0 rfl (lv_at hl 0 rfl) ?_
  refine za_getr (k := 2) hx hb hts hin11 hown hK hP zF_64_2 rfl (Nat.le_of_ble_eq_true rfl) (Or.inl hw1) dX11_productAt_1 ?_
  refine lv_bipush (v := (8 : Int32)) hx hb dX11_productAt_4 (by decide) ?_
  refine lv_iconst (v := (3 : Int32)) hx hb dX11_productAt_6 (by decide) ?_
  refine lv_iload_n hx hb dX11_productAt_7 rfl (lv_at hl 1 rfl) ?_
  refine lv_imul hx hb dX11_productAt_8 ?_
  refine lv_iadd hx hb dX11_productAt_9 ?_
  refine lv_iload_n hx hb dX11_productAt_10 rfl (lv_at hl 2 rfl) ?_
  refine lv_iadd hx hb dX11_productAt_11 ?_
  obtain ⟨g1, h⟩ := gd_s h
  refine za_ild hx hb hK hP zI_66 g1 dX11_productAt_12 ?_
  cases h
  exact W.iret hx hb hr (fun t ht _ => ⟨rfl, ht⟩) (fun q hq => absurd hq List.not_mem_nil) dX11_productAt_13
abbrev rmX11_isPart : Room := { frames := 1, cells := 0, slots := 0, locals := 22 }
set_option maxHeartbeats 4000000 in
set_option maxRecDepth 100000 in
theorem k_X11_isPart (l : Launch) {D : va_G} {cI cJ : ClassId} {ad : Nat → Nat} {u : tU} {v : tV} {a1 : Int32} {a2 : Int32}  {r : Int32}  (h : pX11_isPart u v a1 a2 = some r) : Met l yX11_isPart wsX11_isPart rmX11_isPart (va_Pc [.ref (ad 64), .int a1, .int a2] (xPre D cI cJ (wA cI cJ ad u v))) (QcRead r) 0 0 (fun _ => False) := by
  refine Met.ofW (cc := cX11_isPart) (maxL := 3) (ret := (some .boolean)) (by decide) rfl ?_
  intro p e s m args below meth c s₁ B hml hv
  obtain ⟨rfl, hP, hK⟩ := hv
  have hx := B.exec
  have hb := B.bytes
  have hr := B.returns
  have hts := atoms_spec (ws := wsX11_isPart) B.pre
  have hown : s.vm.findClass RX11 = some m.cls := findClass_of_methodNamed B.named
  have hlocks := B.notSynchronized
  have hl := lv_entry ([.ref (ad 64), .int a1, .int a2]) (n := 3) (Nat.le_of_ble_eq_true rfl)
  rw [lg_entry_eq]
  generalize (lg_sl ([.ref (ad 64), .int a1, .int a2]) ++ List.replicate (3 - (lg_sl ([.ref (ad 64), .int a1, .int a2])).length) Slot.unset).toArray = ls at hl ⊢
  have hl : lv_has ls 3 [(0, .ref (ad 64)), (1, .int a1), (2, .int a2)] := hl
  rw [pX11_isPart] at h
  refine lv_iload_n hx hb dX11_isPart_0 rfl (lv_at hl 2 rfl) ?_
  refine lv_iload_n hx hb dX11_isPart_1 rfl (lv_at hl 1 rfl) ?_
  refine lv_icmp_eq (tgt := 23) hx hb dX11_isPart_2 (by decide) (fun c1 => ?_) (fun c1 => ?_)
  · have h := vz_t c1 h
    refine lv_iconst (v := (0 : Int32)) hx hb dX11_isPart_23 (by decide) ?_
    cases h
    exact W.zret hx hb hr nb0 (fun t ht _ => ⟨rfl, ht⟩) (fun q hq => absurd hq List.not_mem_nil) dX11_isPart_24
  · have h := vz_f c1 h
    refine lv_aload_n hx hb dX11_isPart_5 rfl (lv_at hl 0 rfl) ?_
    refine lv_iload_n hx hb dX11_isPart_6 rfl (lv_at hl 1 rfl) ?_
    refine lv_iconst (v := (1 : Int32)) hx hb dX11_isPart_7 (by decide) ?_
    obtain ⟨r3, hc2, h⟩ := vz_b h
    refine za_callR (va_runV (As := [.int a1, .int (1 : Int32)]) (rest := []) ⟨hx, hb, hml, hown, hts⟩ (k_X11_productAt l (D := D) (cI := cI) (cJ := cJ) (ad := ad) hc2) (cwV 2 hts gX11_isPart_X11_productAt rfl rfl rfl ⟨rfl, zd_X11_productAt⟩ ⟨Nat.le_of_ble_eq_true rfl, Nat.le_of_ble_eq_true rfl⟩) (xPreV (ci := 11) hK hP rfl zO_64) rfl rfl hl.1 rfl (lv_room (Nat.le_of_ble_eq_true rfl)) dX11_isPart_8 ⟨Nat.zero_le _, Nat.zero_le _⟩) ?_
    refine lv_iload_n hx hb dX11_isPart_11 rfl (lv_at hl 2 rfl) ?_
    refine lv_ishr hx hb dX11_isPart_12 ?_
    refine lv_iconst (v := (1 : Int32)) hx hb dX11_isPart_13 (by decide) ?_
    refine lv_iand hx hb dX11_isPart_14 ?_
    refine lv_iconst (v := (1 : Int32)) hx hb dX11_isPart_15 (by decide) ?_
    refine lv_icmp_ne (tgt := 23) hx hb dX11_isPart_16 (by decide) (fun c4 => ?_) (fun c4 => ?_)
    · have h := vz_f c4 h
      refine lv_iconst (v := (0 : Int32)) hx hb dX11_isPart_23 (by decide) ?_
      cases h
      exact W.zret hx hb hr nb0 (fun t ht _ => ⟨rfl, ht⟩) (fun q hq => absurd hq List.not_mem_nil) dX11_isPart_24
    · have h := vz_t c4 h
      refine lv_iconst (v := (1 : Int32)) hx hb dX11_isPart_19 (by decide) ?_
      refine lv_goto (tgt := 24) hx hb dX11_isPart_20 (by decide) ?_
      cases h
      exact W.zret hx hb hr nb1 (fun t ht _ => ⟨rfl, ht⟩) (fun q hq => absurd hq List.not_mem_nil) dX11_isPart_24
abbrev rmX11_makeSuite : Room := { frames := 2, cells := 0, slots := 0, locals := 44 }
set_option maxHeartbeats 4000000 in
set_option maxRecDepth 100000 in
theorem k_X11_makeSuite (l : Launch) {D : va_G} {cI cJ : ClassId} {ad : Nat → Nat} {u : tU} {v : tV} {A : Nat → Prop} (hD : zD A cI cJ ad) {a1 : Int32} {a2 : Int32}  {uz : tU} {vz : tV} (h : pX11_makeSuite u v a1 a2 = some (uz, vz)) : Met l yX11_makeSuite wsX11_makeSuite rmX11_makeSuite (va_Pc [.ref (ad 64), .int a1, .int a2] (xPre D cI cJ (wA cI cJ ad u v))) (xWv D cI cJ ad A uz vz) 0 0 A := by
  refine Met.ofW (cc := cX11_makeSuite) (maxL := 7) (ret := none) (by decide) rfl ?_
  intro p e s m args below meth c s₁ B hml hv
  obtain ⟨rfl, hP, hK⟩ := hv
  have hx := B.exec
  have hb := B.bytes
  have hr := B.returns
  have hts := atoms_spec (ws := wsX11_makeSuite) B.pre
  have hown : s.vm.findClass RX11 = some m.cls := findClass_of_methodNamed B.named
  have hlocks := B.notSynchronized
  have hS : va_S A s.heap s.heap [] := va_S.rf
  have hin11 : ∀ w ∈ u_ws RX11 TX11 10, w ∈ wsX11_makeSuite := fun _ h => List.mem_cons_of_mem _ (List.mem_append_right _ h)
  have hw1 := hts (.fieldLink RX11 13 "InstallDeskModel" "book" "[I") (List.mem_of_getElem? (i := 1) rfl)
  have hw2 := hts (.fieldLink RX11 19 "InstallDeskModel" "had" "[I") (List.mem_of_getElem? (i := 2) rfl)
  have hl := lv_entry ([.ref (ad 64), .int a1, .int a2]) (n := 7) (Nat.le_of_ble_eq_true rfl)
  rw [lg_entry_eq]
  generalize (lg_sl ([.ref (ad 64), .int a1, .int a2]) ++ List.replicate (7 - (lg_sl ([.ref (ad 64), .int a1, .int a2])).length) Slot.unset).toArray = ls at hl ⊢
  have hl : lv_has ls 7 [(0, .ref (ad 64)), (1, .int a1), (2, .int a2)] := hl
  have L135 : ∀ (x1 : Int32) (x2 : Int32) (n : Nat) (x6 : Int32) (u : tU) (v : tV) (H : Heap) (locs : List Loc) (ls : Array Slot) (o : tU × tV), pX11_makeSuite_L135 x1 x2 n x6 u v = some o → va_P D vwCl (wA cI cJ ad u v) H → va_S A s.heap H locs → lv_has ls 7 [(0, .ref (ad 64)), (1, .int x1), (2, .int x2), (6, .int x6)] → (∀ (u' : tU) (v' : tV) (H : Heap) (locs : List Loc) (ls : Array Slot), o = (u', v') → va_P D vwCl (wA cI cJ ad u' v') H → va_S A s.heap H locs → lv_has ls 7 [] → W p l e (headSpec wsX11_makeSuite rmX11_makeSuite).room s m [Value.ref (ad 64), Value.int a1, Value.int a2].toArray below meth c H locs 0 0 (MQ below (xWv D cI cJ ad A uz vz) [Value.ref (ad 64), Value.int a1, Value.int a2].toArray s 0 0 A) (F0 m 185 ls [])) → W p l e (headSpec wsX11_makeSuite rmX11_makeSuite).room s m [Value.ref (ad 64), Value.int a1, Value.int a2].toArray below meth c H locs 0 0 (MQ below (xWv D cI cJ ad A uz vz) [Value.ref (ad 64), Value.int a1, Value.int a2].toArray s 0 0 A) (F0 m 135 ls []) := by
    intro x1 x2 n
    induction n with
    | zero => intro x6 u v H locs ls o h; cases h
    | succ n ih =>
      intro x6 u v H locs ls o h hP hS hl hk
      rw [pX11_makeSuite_L135] at h
      refine lv_iload hx hb dX11_makeSuite_135 (lv_at hl 3 rfl) ?_
      refine lv_aload_n hx hb dX11_makeSuite_137 rfl (lv_at hl 0 rfl) ?_
      refine za_getr (k := 2) hx hb hts hin11 hown hK hP zF_64_2 rfl (Nat.le_of_ble_eq_true rfl) (Or.inl hw1) dX11_makeSuite_138 ?_
      refine lv_iconst (v := (0 : Int32)) hx hb dX11_makeSuite_141 (by decide) ?_
      refine za_ildc (j := 0) hx hb hK hP zI_66 (by unfold vp_in; decide) rfl dX11_makeSuite_142 ?_
      refine lv_icmp_ge (tgt := 185) hx hb dX11_makeSuite_143 (by decide) (fun c1 => ?_) (fun c1 => ?_)
      · have h := vz_t c1 h
        cases h
        exact hk u v _ _ ls rfl hP hS (lv_sub hl [] rfl)
      · have h := vz_f c1 h
        refine lv_aload_n hx hb dX11_makeSuite_146 rfl (lv_at hl 0 rfl) ?_
        refine lv_iload_n hx hb dX11_makeSuite_147 rfl (lv_at hl 2 rfl) ?_
        refine lv_iload hx hb dX11_makeSuite_148 (lv_at hl 3 rfl) ?_
        obtain ⟨r3, hc2, h⟩ := vz_b h
        refine za_callR (va_runV (As := [.int x2, .int x6]) (rest := []) ⟨hx, hb, hml, hown, hts⟩ (k_X11_isPart l (D := D) (cI := cI) (cJ := cJ) (ad := ad) hc2) (cwV 2 hts gX11_makeSuite_X11_isPart rfl rfl rfl ⟨rfl, zd_X11_isPart⟩ ⟨Nat.le_of_ble_eq_true rfl, Nat.le_of_ble_eq_true rfl⟩) (xPreV (ci := 11) hK hP rfl zO_64) rfl rfl hl.1 rfl (lv_room (Nat.le_of_ble_eq_true rfl)) dX11_makeSuite_150 ⟨Nat.zero_le _, Nat.zero_le _⟩) ?_
        refine lv_if_eq (tgt := 179) hx hb dX11_makeSuite_153 (by decide) (fun c4 => ?_) (fun c4 => ?_)
        · have h := vz_t c4 h
          refine lv_iinc (v := (x6 + 1)) (lv' := [(6, .int (x6 + 1)), (0, .ref (ad 64)), (1, .int x1), (2, .int x2)]) hx hb dX11_makeSuite_179 hl (k := 3) rfl rfl (by decide) rfl (fun ls hl => ?_)
          refine lv_goto (tgt := 135) hx hb dX11_makeSuite_182 (by decide) ?_
          exact ih (x6 + 1) u v _ _ ls o h hP hS (lv_sub hl [1, 2, 3, 0] rfl) hk
        · have h := vz_f c4 h
          refine lv_aload_n hx hb dX11_makeSuite_156 rfl (lv_at hl 0 rfl) ?_
          refine lv_iload_n hx hb dX11_makeSuite_157 rfl (lv_at hl 2 rfl) ?_
          refine lv_iconst (v := (0 : Int32)) hx hb dX11_makeSuite_158 (by decide) ?_
          obtain ⟨r6, hc5, h⟩ := vz_b h
          refine za_callR (va_runV (As := [.int x2, .int (0 : Int32)]) (rest := []) ⟨hx, hb, hml, hown, hts⟩ (k_X11_productAt l (D := D) (cI := cI) (cJ := cJ) (ad := ad) hc5) (cwV 2 hts gX11_makeSuite_X11_productAt rfl rfl rfl ⟨rfl, zd_X11_productAt⟩ ⟨Nat.le_of_ble_eq_true rfl, Nat.le_of_ble_eq_true rfl⟩) (xPreV (ci := 11) hK hP rfl zO_64) rfl rfl hl.1 rfl (lv_room (Nat.le_of_ble_eq_true rfl)) dX11_makeSuite_159 ⟨Nat.zero_le _, Nat.zero_le _⟩) ?_
          refine lv_iconst (v := (1 : Int32)) hx hb dX11_makeSuite_162 (by decide) ?_
          refine lv_icmp_ne (tgt := 179) hx hb dX11_makeSuite_163 (by decide) (fun c7 => ?_) (fun c7 => ?_)
          · have h := vz_f c7 h
            refine lv_iinc (v := (x6 + 1)) (lv' := [(6, .int (x6 + 1)), (0, .ref (ad 64)), (1, .int x1), (2, .int x2)]) hx hb dX11_makeSuite_179 hl (k := 3) rfl rfl (by decide) rfl (fun ls hl => ?_)
            refine lv_goto (tgt := 135) hx hb dX11_makeSuite_182 (by decide) ?_
            exact ih (x6 + 1) u v _ _ ls o h hP hS (lv_sub hl [1, 2, 3, 0] rfl) hk
          · have h := vz_t c7 h
            refine lv_aload_n hx hb dX11_makeSuite_166 rfl (lv_at hl 0 rfl) ?_
            refine za_getr (k := 6) hx hb hts hin11 hown hK hP zF_64_6 rfl (Nat.le_of_ble_eq_true rfl) (Or.inl hw2) dX11_makeSuite_167 ?_
            refine lv_bipush (v := (10 : Int32)) hx hb dX11_makeSuite_170 (by decide) ?_
            refine lv_iload_n hx hb dX11_makeSuite_172 rfl (lv_at hl 1 rfl) ?_
            refine lv_imul hx hb dX11_makeSuite_173 ?_
            refine lv_iload hx hb dX11_makeSuite_174 (lv_at hl 3 rfl) ?_
            refine lv_iadd hx hb dX11_makeSuite_176 ?_
            refine lv_iconst (v := (0 : Int32)) hx hb dX11_makeSuite_177 (by decide) ?_
            obtain ⟨g8, h⟩ := gd_s h
            refine za_ist hx hb hK hP hD hS zI_68 g8 dX11_makeSuite_178 (fun H locs hP hS => ?_)
            refine lv_iinc (v := (x6 + 1)) (lv' := [(6, .int (x6 + 1)), (0, .ref (ad 64)), (1, .int x1), (2, .int x2)]) hx hb dX11_makeSuite_179 hl (k := 3) rfl rfl (by decide) rfl (fun ls hl => ?_)
            refine lv_goto (tgt := 135) hx hb dX11_makeSuite_182 (by decide) ?_
            exact ih (x6 + 1) (sU u 6 (((10 : Int32) * x1) + x6).toNatClampNeg (0 : Int32)) v _ _ ls o h hP hS (lv_sub hl [1, 2, 3, 0] rfl) hk
  have L8 : ∀ (u : tU) (v : tV) (H : Heap) (locs : List Loc) (x1 : Int32) (x2 : Int32) (n : Nat) (x3 : Int32) (x4 : Int32) (x5 : Int32) (ls : Array Slot) (o : Int32 × Int32), pX11_makeSuite_L8 u v x1 x2 n x3 x4 x5 = some o → va_P D vwCl (wA cI cJ ad u v) H → va_S A s.heap H locs → lv_has ls 7 [(0, .ref (ad 64)), (1, .int x1), (2, .int x2), (3, .int x3), (4, .int x4), (5, .int x5)] → (∀ (y3 : Int32) (y4 : Int32) (ls : Array Slot), o = (y3, y4) → lv_has ls 7 [(0, .ref (ad 64)), (1, .int x1), (2, .int x2), (3, .int y3), (4, .int y4)] → W p l e (headSpec wsX11_makeSuite rmX11_makeSuite).room s m [Value.ref (ad 64), Value.int a1, Value.int a2].toArray below meth c H locs 0 0 (MQ below (xWv D cI cJ ad A uz vz) [Value.ref (ad 64), Value.int a1, Value.int a2].toArray s 0 0 A) (F0 m 82 ls [])) → W p l e (headSpec wsX11_makeSuite rmX11_makeSuite).room s m [Value.ref (ad 64), Value.int a1, Value.int a2].toArray below meth c H locs 0 0 (MQ below (xWv D cI cJ ad A uz vz) [Value.ref (ad 64), Value.int a1, Value.int a2].toArray s 0 0 A) (F0 m 8 ls []) := by
    intro u v H locs x1 x2 n
    induction n with
    | zero => intro x3 x4 x5 ls o h; cases h
    | succ n ih =>
      intro x3 x4 x5 ls o h hP hS hl hk
      rw [pX11_makeSuite_L8] at h
      refine lv_iload hx hb dX11_makeSuite_8 (lv_at hl 5 rfl) ?_
      refine lv_aload_n hx hb dX11_makeSuite_10 rfl (lv_at hl 0 rfl) ?_
      refine za_getr (k := 2) hx hb hts hin11 hown hK hP zF_64_2 rfl (Nat.le_of_ble_eq_true rfl) (Or.inl hw1) dX11_makeSuite_11 ?_
      refine lv_iconst (v := (0 : Int32)) hx hb dX11_makeSuite_14 (by decide) ?_
      refine za_ildc (j := 0) hx hb hK hP zI_66 (by unfold vp_in; decide) rfl dX11_makeSuite_15 ?_
      refine lv_icmp_ge (tgt := 82) hx hb dX11_makeSuite_16 (by decide) (fun c9 => ?_) (fun c9 => ?_)
      · have h := vz_t c9 h
        cases h
        exact hk x3 x4 ls rfl (lv_sub hl [0, 1, 2, 3, 4] rfl)
      · have h := vz_f c9 h
        refine lv_aload_n hx hb dX11_makeSuite_19 rfl (lv_at hl 0 rfl) ?_
        refine lv_iload_n hx hb dX11_makeSuite_20 rfl (lv_at hl 2 rfl) ?_
        refine lv_iload hx hb dX11_makeSuite_21 (lv_at hl 5 rfl) ?_
        obtain ⟨r11, hc10, h⟩ := vz_b h
        refine za_callR (va_runV (As := [.int x2, .int x5]) (rest := []) ⟨hx, hb, hml, hown, hts⟩ (k_X11_isPart l (D := D) (cI := cI) (cJ := cJ) (ad := ad) hc10) (cwV 2 hts gX11_makeSuite_X11_isPart rfl rfl rfl ⟨rfl, zd_X11_isPart⟩ ⟨Nat.le_of_ble_eq_true rfl, Nat.le_of_ble_eq_true rfl⟩) (xPreV (ci := 11) hK hP rfl zO_64) rfl rfl hl.1 rfl (lv_room (Nat.le_of_ble_eq_true rfl)) dX11_makeSuite_23 ⟨Nat.zero_le _, Nat.zero_le _⟩) ?_
        refine lv_if_eq (tgt := 44) hx hb dX11_makeSuite_26 (by decide) (fun c12 => ?_) (fun c12 => ?_)
        · have h := vz_t c12 h
          refine lv_iconst (v := (0 : Int32)) hx hb dX11_makeSuite_44 (by decide) ?_
          refine lv_istore (lv' := [(6, .int (0 : Int32)), (0, .ref (ad 64)), (1, .int x1), (2, .int x2), (3, .int x3), (4, .int x4), (5, .int x5)]) hx hb dX11_makeSuite_45 hl (by decide) rfl (fun ls hl => ?_)
          refine lv_iload_n hx hb dX11_makeSuite_47 rfl (lv_at hl 4 rfl) ?_
          refine lv_iload hx hb dX11_makeSuite_48 (lv_at hl 0 rfl) ?_
          refine lv_if_le (tgt := 57) hx hb dX11_makeSuite_50 (by decide) (fun c13 => ?_) (fun c13 => ?_)
          rotate_left
          · exact absurd c13 (by decide)
          refine lv_iconst (v := (0 : Int32)) hx hb dX11_makeSuite_57 (by decide) ?_
          refine lv_iadd hx hb dX11_makeSuite_58 ?_
          refine lv_istore_n (lv' := [(3, .int (x3 + (0 : Int32))), (6, .int (0 : Int32)), (0, .ref (ad 64)), (1, .int x1), (2, .int x2), (4, .int x4), (5, .int x5)]) hx hb dX11_makeSuite_59 rfl hl (by decide) rfl (fun ls hl => ?_)
          refine lv_iload hx hb dX11_makeSuite_60 (lv_at hl 1 rfl) ?_
          refine lv_iload hx hb dX11_makeSuite_62 (lv_at hl 5 rfl) ?_
          refine lv_icmp_le (tgt := 72) hx hb dX11_makeSuite_64 (by decide) (fun c14 => ?_) (fun c14 => ?_)
          · have h := vz_t c14 h
            refine lv_iload hx hb dX11_makeSuite_72 (lv_at hl 5 rfl) ?_
            refine lv_istore (lv' := [(4, .int x4), (3, .int (x3 + (0 : Int32))), (6, .int (0 : Int32)), (0, .ref (ad 64)), (1, .int x1), (2, .int x2), (5, .int x5)]) hx hb dX11_makeSuite_74 hl (by decide) rfl (fun ls hl => ?_)
            refine lv_iinc (v := (x5 + 1)) (lv' := [(5, .int (x5 + 1)), (4, .int x4), (3, .int (x3 + (0 : Int32))), (6, .int (0 : Int32)), (0, .ref (ad 64)), (1, .int x1), (2, .int x2)]) hx hb dX11_makeSuite_76 hl (k := 6) rfl rfl (by decide) rfl (fun ls hl => ?_)
            refine lv_goto (tgt := 8) hx hb dX11_makeSuite_79 (by decide) ?_
            exact ih (x3 + (0 : Int32)) x4 (x5 + 1) ls o h hP hS (lv_sub hl [4, 5, 6, 2, 1, 0] rfl) hk
          · have h := vz_f c14 h
            refine lv_iload hx hb dX11_makeSuite_67 (lv_at hl 1 rfl) ?_
            refine lv_goto (tgt := 74) hx hb dX11_makeSuite_69 (by decide) ?_
            refine lv_istore (lv' := [(4, .int (0 : Int32)), (3, .int (x3 + (0 : Int32))), (6, .int (0 : Int32)), (0, .ref (ad 64)), (1, .int x1), (2, .int x2), (5, .int x5)]) hx hb dX11_makeSuite_74 hl (by decide) rfl (fun ls hl => ?_)
            refine lv_iinc (v := (x5 + 1)) (lv' := [(5, .int (x5 + 1)), (4, .int (0 : Int32)), (3, .int (x3 + (0 : Int32))), (6, .int (0 : Int32)), (0, .ref (ad 64)), (1, .int x1), (2, .int x2)]) hx hb dX11_makeSuite_76 hl (k := 6) rfl rfl (by decide) rfl (fun ls hl => ?_)
            refine lv_goto (tgt := 8) hx hb dX11_makeSuite_79 (by decide) ?_
            exact ih (x3 + (0 : Int32)) (0 : Int32) (x5 + 1) ls o h hP hS (lv_sub hl [4, 5, 6, 2, 1, 0] rfl) hk
        · have h := vz_f c12 h
          refine lv_aload_n hx hb dX11_makeSuite_29 rfl (lv_at hl 0 rfl) ?_
          refine za_getr (k := 6) hx hb hts hin11 hown hK hP zF_64_6 rfl (Nat.le_of_ble_eq_true rfl) (Or.inl hw2) dX11_makeSuite_30 ?_
          refine lv_bipush (v := (10 : Int32)) hx hb dX11_makeSuite_33 (by decide) ?_
          refine lv_iload_n hx hb dX11_makeSuite_35 rfl (lv_at hl 1 rfl) ?_
          refine lv_imul hx hb dX11_makeSuite_36 ?_
          refine lv_iload hx hb dX11_makeSuite_37 (lv_at hl 5 rfl) ?_
          refine lv_iadd hx hb dX11_makeSuite_39 ?_
          obtain ⟨g15, h⟩ := gd_s h
          refine za_ild hx hb hK hP zI_68 g15 dX11_makeSuite_40 ?_
          refine lv_goto (tgt := 45) hx hb dX11_makeSuite_41 (by decide) ?_
          refine lv_istore (lv' := [(6, .int (u 6 (((10 : Int32) * x1) + x5).toNatClampNeg)), (0, .ref (ad 64)), (1, .int x1), (2, .int x2), (3, .int x3), (4, .int x4), (5, .int x5)]) hx hb dX11_makeSuite_45 hl (by decide) rfl (fun ls hl => ?_)
          refine lv_iload_n hx hb dX11_makeSuite_47 rfl (lv_at hl 4 rfl) ?_
          refine lv_iload hx hb dX11_makeSuite_48 (lv_at hl 0 rfl) ?_
          refine lv_if_le (tgt := 57) hx hb dX11_makeSuite_50 (by decide) (fun c16 => ?_) (fun c16 => ?_)
          · have h := vz_t c16 h
            refine lv_iconst (v := (0 : Int32)) hx hb dX11_makeSuite_57 (by decide) ?_
            refine lv_iadd hx hb dX11_makeSuite_58 ?_
            refine lv_istore_n (lv' := [(3, .int (x3 + (0 : Int32))), (6, .int (u 6 (((10 : Int32) * x1) + x5).toNatClampNeg)), (0, .ref (ad 64)), (1, .int x1), (2, .int x2), (4, .int x4), (5, .int x5)]) hx hb dX11_makeSuite_59 rfl hl (by decide) rfl (fun ls hl => ?_)
            refine lv_iload hx hb dX11_makeSuite_60 (lv_at hl 1 rfl) ?_
            refine lv_iload hx hb dX11_makeSuite_62 (lv_at hl 5 rfl) ?_
            refine lv_icmp_le (tgt := 72) hx hb dX11_makeSuite_64 (by decide) (fun c17 => ?_) (fun c17 => ?_)
            · have h := vz_t c17 h
              refine lv_iload hx hb dX11_makeSuite_72 (lv_at hl 5 rfl) ?_
              refine lv_istore (lv' := [(4, .int x4), (3, .int (x3 + (0 : Int32))), (6, .int (u 6 (((10 : Int32) * x1) + x5).toNatClampNeg)), (0, .ref (ad 64)), (1, .int x1), (2, .int x2), (5, .int x5)]) hx hb dX11_makeSuite_74 hl (by decide) rfl (fun ls hl => ?_)
              refine lv_iinc (v := (x5 + 1)) (lv' := [(5, .int (x5 + 1)), (4, .int x4), (3, .int (x3 + (0 : Int32))), (6, .int (u 6 (((10 : Int32) * x1) + x5).toNatClampNeg)), (0, .ref (ad 64)), (1, .int x1), (2, .int x2)]) hx hb dX11_makeSuite_76 hl (k := 6) rfl rfl (by decide) rfl (fun ls hl => ?_)
              refine lv_goto (tgt := 8) hx hb dX11_makeSuite_79 (by decide) ?_
              exact ih (x3 + (0 : Int32)) x4 (x5 + 1) ls o h hP hS (lv_sub hl [4, 5, 6, 2, 1, 0] rfl) hk
            · have h := vz_f c17 h
              refine lv_iload hx hb dX11_makeSuite_67 (lv_at hl 1 rfl) ?_
              refine lv_goto (tgt := 74) hx hb dX11_makeSuite_69 (by decide) ?_
              refine lv_istore (lv' := [(4, .int (u 6 (((10 : Int32) * x1) + x5).toNatClampNeg)), (3, .int (x3 + (0 : Int32))), (6, .int (u 6 (((10 : Int32) * x1) + x5).toNatClampNeg)), (0, .ref (ad 64)), (1, .int x1), (2, .int x2), (5, .int x5)]) hx hb dX11_makeSuite_74 hl (by decide) rfl (fun ls hl => ?_)
              refine lv_iinc (v := (x5 + 1)) (lv' := [(5, .int (x5 + 1)), (4, .int (u 6 (((10 : Int32) * x1) + x5).toNatClampNeg)), (3, .int (x3 + (0 : Int32))), (6, .int (u 6 (((10 : Int32) * x1) + x5).toNatClampNeg)), (0, .ref (ad 64)), (1, .int x1), (2, .int x2)]) hx hb dX11_makeSuite_76 hl (k := 6) rfl rfl (by decide) rfl (fun ls hl => ?_)
              refine lv_goto (tgt := 8) hx hb dX11_makeSuite_79 (by decide) ?_
              exact ih (x3 + (0 : Int32)) (u 6 (((10 : Int32) * x1) + x5).toNatClampNeg) (x5 + 1) ls o h hP hS (lv_sub hl [4, 5, 6, 2, 1, 0] rfl) hk
          · have h := vz_f c16 h
            refine lv_iconst (v := (1 : Int32)) hx hb dX11_makeSuite_53 (by decide) ?_
            refine lv_goto (tgt := 58) hx hb dX11_makeSuite_54 (by decide) ?_
            refine lv_iadd hx hb dX11_makeSuite_58 ?_
            refine lv_istore_n (lv' := [(3, .int (x3 + (1 : Int32))), (6, .int (u 6 (((10 : Int32) * x1) + x5).toNatClampNeg)), (0, .ref (ad 64)), (1, .int x1), (2, .int x2), (4, .int x4), (5, .int x5)]) hx hb dX11_makeSuite_59 rfl hl (by decide) rfl (fun ls hl => ?_)
            refine lv_iload hx hb dX11_makeSuite_60 (lv_at hl 1 rfl) ?_
            refine lv_iload hx hb dX11_makeSuite_62 (lv_at hl 5 rfl) ?_
            refine lv_icmp_le (tgt := 72) hx hb dX11_makeSuite_64 (by decide) (fun c18 => ?_) (fun c18 => ?_)
            · have h := vz_t c18 h
              refine lv_iload hx hb dX11_makeSuite_72 (lv_at hl 5 rfl) ?_
              refine lv_istore (lv' := [(4, .int x4), (3, .int (x3 + (1 : Int32))), (6, .int (u 6 (((10 : Int32) * x1) + x5).toNatClampNeg)), (0, .ref (ad 64)), (1, .int x1), (2, .int x2), (5, .int x5)]) hx hb dX11_makeSuite_74 hl (by decide) rfl (fun ls hl => ?_)
              refine lv_iinc (v := (x5 + 1)) (lv' := [(5, .int (x5 + 1)), (4, .int x4), (3, .int (x3 + (1 : Int32))), (6, .int (u 6 (((10 : Int32) * x1) + x5).toNatClampNeg)), (0, .ref (ad 64)), (1, .int x1), (2, .int x2)]) hx hb dX11_makeSuite_76 hl (k := 6) rfl rfl (by decide) rfl (fun ls hl => ?_)
              refine lv_goto (tgt := 8) hx hb dX11_makeSuite_79 (by decide) ?_
              exact ih (x3 + (1 : Int32)) x4 (x5 + 1) ls o h hP hS (lv_sub hl [4, 5, 6, 2, 1, 0] rfl) hk
            · have h := vz_f c18 h
              refine lv_iload hx hb dX11_makeSuite_67 (lv_at hl 1 rfl) ?_
              refine lv_goto (tgt := 74) hx hb dX11_makeSuite_69 (by decide) ?_
              refine lv_istore (lv' := [(4, .int (u 6 (((10 : Int32) * x1) + x5).toNatClampNeg)), (3, .int (x3 + (1 : Int32))), (6, .int (u 6 (((10 : Int32) * x1) + x5).toNatClampNeg)), (0, .ref (ad 64)), (1, .int x1), (2, .int x2), (5, .int x5)]) hx hb dX11_makeSuite_74 hl (by decide) rfl (fun ls hl => ?_)
              refine lv_iinc (v := (x5 + 1)) (lv' := [(5, .int (x5 + 1)), (4, .int (u 6 (((10 : Int32) * x1) + x5).toNatClampNeg)), (3, .int (x3 + (1 : Int32))), (6, .int (u 6 (((10 : Int32) * x1) + x5).toNatClampNeg)), (0, .ref (ad 64)), (1, .int x1), (2, .int x2)]) hx hb dX11_makeSuite_76 hl (k := 6) rfl rfl (by decide) rfl (fun ls hl => ?_)
              refine lv_goto (tgt := 8) hx hb dX11_makeSuite_79 (by decide) ?_
              exact ih (x3 + (1 : Int32)) (u 6 (((10 : Int32) * x1) + x5).toNatClampNeg) (x5 + 1) ls o h hP hS (lv_sub hl [4, 5, 6, 2, 1, 0] rfl) hk
  rw [pX11_makeSuite] at h
  refine lv_iconst (v := (0 : Int32)) hx hb dX11_makeSuite_0 (by decide) ?_
  refine lv_istore_n (lv' := [(3, .int (0 : Int32)), (0, .ref (ad 64)), (1, .int a1), (2, .int a2)]) hx hb dX11_makeSuite_1 rfl hl (by decide) rfl (fun ls hl => ?_)
  refine lv_iconst (v := (0 : Int32)) hx hb dX11_makeSuite_2 (by decide) ?_
  refine lv_istore (lv' := [(4, .int (0 : Int32)), (3, .int (0 : Int32)), (0, .ref (ad 64)), (1, .int a1), (2, .int a2)]) hx hb dX11_makeSuite_3 hl (by decide) rfl (fun ls hl => ?_)
  refine lv_iconst (v := (0 : Int32)) hx hb dX11_makeSuite_5 (by decide) ?_
  refine lv_istore (lv' := [(5, .int (0 : Int32)), (4, .int (0 : Int32)), (3, .int (0 : Int32)), (0, .ref (ad 64)), (1, .int a1), (2, .int a2)]) hx hb dX11_makeSuite_6 hl (by decide) rfl (fun ls hl => ?_)
  obtain ⟨o19, hL20, h⟩ := vz_b h
  refine L8 u v _ _ a1 a2 fuel (0 : Int32) (0 : Int32) (0 : Int32) ls o19 hL20 hP hS (lv_sub hl [3, 4, 5, 2, 1, 0] rfl) (fun y22 y23 ls e21 hl => ?_)
  try rw [e21] at h
  try dsimp only at h
  refine lv_iload_n hx hb dX11_makeSuite_82 rfl (lv_at hl 3 rfl) ?_
  refine lv_aload_n hx hb dX11_makeSuite_83 rfl (lv_at hl 0 rfl) ?_
  refine lv_iload_n hx hb dX11_makeSuite_84 rfl (lv_at hl 2 rfl) ?_
  refine lv_iconst (v := (2 : Int32)) hx hb dX11_makeSuite_85 (by decide) ?_
  obtain ⟨r25, hc24, h⟩ := vz_b h
  refine za_callR (va_runV (As := [.int a2, .int (2 : Int32)]) (rest := [.int y22]) ⟨hx, hb, hml, hown, hts⟩ (k_X11_productAt l (D := D) (cI := cI) (cJ := cJ) (ad := ad) hc24) (cwV 2 hts gX11_makeSuite_X11_productAt rfl rfl rfl ⟨rfl, zd_X11_productAt⟩ ⟨Nat.le_of_ble_eq_true rfl, Nat.le_of_ble_eq_true rfl⟩) (xPreV (ci := 11) hK hP rfl zO_64) rfl rfl hl.1 rfl (lv_room (Nat.le_of_ble_eq_true rfl)) dX11_makeSuite_86 ⟨Nat.zero_le _, Nat.zero_le _⟩) ?_
  refine lv_icmp_ge (tgt := 93) hx hb dX11_makeSuite_89 (by decide) (fun c26 => ?_) (fun c26 => ?_)
  · have h := vz_t c26 h
    refine lv_bipush (v := (10 : Int32)) hx hb dX11_makeSuite_93 (by decide) ?_
    refine lv_iload_n hx hb dX11_makeSuite_95 rfl (lv_at hl 1 rfl) ?_
    refine lv_imul hx hb dX11_makeSuite_96 ?_
    refine lv_iload_n hx hb dX11_makeSuite_97 rfl (lv_at hl 2 rfl) ?_
    refine lv_iadd hx hb dX11_makeSuite_98 ?_
    refine lv_istore (lv' := [(5, .int (((10 : Int32) * a1) + a2)), (0, .ref (ad 64)), (1, .int a1), (2, .int a2), (3, .int y22), (4, .int y23)]) hx hb dX11_makeSuite_99 hl (by decide) rfl (fun ls hl => ?_)
    refine lv_aload_n hx hb dX11_makeSuite_101 rfl (lv_at hl 1 rfl) ?_
    refine za_getr (k := 6) hx hb hts hin11 hown hK hP zF_64_6 rfl (Nat.le_of_ble_eq_true rfl) (Or.inl hw2) dX11_makeSuite_102 ?_
    refine lv_iload hx hb dX11_makeSuite_105 (lv_at hl 0 rfl) ?_
    refine lv_iload hx hb dX11_makeSuite_107 (lv_at hl 5 rfl) ?_
    refine lv_aload_n hx hb dX11_makeSuite_109 rfl (lv_at hl 1 rfl) ?_
    refine za_getr (k := 6) hx hb hts hin11 hown hK hP zF_64_6 rfl (Nat.le_of_ble_eq_true rfl) (Or.inl hw2) dX11_makeSuite_110 ?_
    refine lv_iload hx hb dX11_makeSuite_113 (lv_at hl 0 rfl) ?_
    obtain ⟨g27, h⟩ := gd_s h
    refine za_ild hx hb hK hP zI_68 g27 dX11_makeSuite_115 ?_
    refine lv_icmp_le (tgt := 124) hx hb dX11_makeSuite_116 (by decide) (fun c28 => ?_) (fun c28 => ?_)
    · have h := vz_t c28 h
      refine lv_aload_n hx hb dX11_makeSuite_124 rfl (lv_at hl 1 rfl) ?_
      refine za_getr (k := 6) hx hb hts hin11 hown hK hP zF_64_6 rfl (Nat.le_of_ble_eq_true rfl) (Or.inl hw2) dX11_makeSuite_125 ?_
      refine lv_iload hx hb dX11_makeSuite_128 (lv_at hl 0 rfl) ?_
      obtain ⟨g29, h⟩ := gd_s h
      refine za_ild hx hb hK hP zI_68 g29 dX11_makeSuite_130 ?_
      obtain ⟨g30, h⟩ := gd_s h
      refine za_ist hx hb hK hP hD hS zI_68 g30 dX11_makeSuite_131 (fun H locs hP hS => ?_)
      refine lv_iconst (v := (0 : Int32)) hx hb dX11_makeSuite_132 (by decide) ?_
      refine lv_istore (lv' := [(6, .int (0 : Int32)), (5, .int (((10 : Int32) * a1) + a2)), (0, .ref (ad 64)), (1, .int a1), (2, .int a2), (3, .int y22), (4, .int y23)]) hx hb dX11_makeSuite_133 hl (by decide) rfl (fun ls hl => ?_)
      obtain ⟨o31, hL32, h⟩ := vz_b h
      refine L135 a1 a2 fuel (0 : Int32) (sU u 6 (((10 : Int32) * a1) + a2).toNatClampNeg (u 6 (((10 : Int32) * a1) + a2).toNatClampNeg)) v _ _ ls o31 hL32 hP hS (lv_sub hl [2, 3, 4, 0] rfl) (fun u34 v35 H locs ls e33 hP hS hl => ?_)
      try rw [e33] at h
      try dsimp only at h
      cases h
      exact W.vret hx hb hr (fun t ht _ => ⟨rfl, by rw [ht]; exact hP, hS.F ht⟩) hS.2.2 dX11_makeSuite_185
    · have h := vz_f c28 h
      refine lv_iload hx hb dX11_makeSuite_119 (lv_at hl 5 rfl) ?_
      refine lv_goto (tgt := 131) hx hb dX11_makeSuite_121 (by decide) ?_
      obtain ⟨g36, h⟩ := gd_s h
      refine za_ist hx hb hK hP hD hS zI_68 g36 dX11_makeSuite_131 (fun H locs hP hS => ?_)
      refine lv_iconst (v := (0 : Int32)) hx hb dX11_makeSuite_132 (by decide) ?_
      refine lv_istore (lv' := [(6, .int (0 : Int32)), (5, .int (((10 : Int32) * a1) + a2)), (0, .ref (ad 64)), (1, .int a1), (2, .int a2), (3, .int y22), (4, .int y23)]) hx hb dX11_makeSuite_133 hl (by decide) rfl (fun ls hl => ?_)
      obtain ⟨o37, hL38, h⟩ := vz_b h
      refine L135 a1 a2 fuel (0 : Int32) (sU u 6 (((10 : Int32) * a1) + a2).toNatClampNeg y23) v _ _ ls o37 hL38 hP hS (lv_sub hl [2, 3, 4, 0] rfl) (fun u40 v41 H locs ls e39 hP hS hl => ?_)
      try rw [e39] at h
      try dsimp only at h
      cases h
      exact W.vret hx hb hr (fun t ht _ => ⟨rfl, by rw [ht]; exact hP, hS.F ht⟩) hS.2.2 dX11_makeSuite_185
  · have h := vz_f c26 h
    cases h
    exact W.vret hx hb hr (fun t ht _ => ⟨rfl, by rw [ht]; exact hP, hS.F ht⟩) hS.2.2 dX11_makeSuite_92
abbrev rmX11_findAt : Room := { frames := 0, cells := 0, slots := 0, locals := 0 }
set_option maxHeartbeats 4000000 in
set_option maxRecDepth 100000 in
theorem k_X11_findAt (l : Launch) {D : va_G} {cI cJ : ClassId} {ad : Nat → Nat} {u : tU} {v : tV} {a1 : Int32} {a2 : Int32}  {r : Int32}  (h : pX11_findAt u v a1 a2 = some r) : Met l yX11_findAt wsX11_findAt rmX11_findAt (va_Pc [.ref (ad 64), .int a1, .int a2] (xPre D cI cJ (wA cI cJ ad u v))) (QcRead r) 0 0 (fun _ => False) := by
  refine Met.ofW (cc := cX11_findAt) (maxL := 3) (ret := (some .int)) (by decide) rfl ?_
  intro p e s m args below meth c s₁ B hml hv
  obtain ⟨rfl, hP, hK⟩ := hv
  have hx := B.exec
  have hb := B.bytes
  have hr := B.returns
  have hts := atoms_spec (ws := wsX11_findAt) B.pre
  have hown : s.vm.findClass RX11 = some m.cls := findClass_of_methodNamed B.named
  have hlocks := B.notSynchronized
  have hin11 : ∀ w ∈ u_ws RX11 TX11 10, w ∈ wsX11_findAt := fun _ h => List.mem_cons_of_mem _ (List.mem_append_right _ h)
  have hw1 := hts (.fieldLink RX11 13 "InstallDeskModel" "book" "[I") (List.mem_of_getElem? (i := 1) rfl)
  have hl := lv_entry ([.ref (ad 64), .int a1, .int a2]) (n := 3) (Nat.le_of_ble_eq_true rfl)
  rw [lg_entry_eq]
  generalize (lg_sl ([.ref (ad 64), .int a1, .int a2]) ++ List.replicate (3 - (lg_sl ([.ref (ad 64), .int a1, .int a2])).length) Slot.unset).toArray = ls at hl ⊢
  have hl : lv_has ls 3 [(0, .ref (ad 64)), (1, .int a1), (2, .int a2)] := hl
  rw [pX11_findAt] at h
  refine lv_aload_n hx hb dX11_findAt_0 rfl (lv_at hl 0 rfl) ?_
  refine za_getr (k := 2) hx hb hts hin11 hown hK hP zF_64_2 rfl (Nat.le_of_ble_eq_true rfl) (Or.inl hw1) dX11_findAt_1 ?_
  refine lv_sipush (v := (294 : Int32)) hx hb dX11_findAt_4 (by decide) ?_
  refine lv_bipush (v := (16 : Int32)) hx hb dX11_findAt_7 (by decide) ?_
  refine lv_iload_n hx hb dX11_findAt_9 rfl (lv_at hl 1 rfl) ?_
  refine lv_imul hx hb dX11_findAt_10 ?_
  refine lv_iadd hx hb dX11_findAt_11 ?_
  refine lv_iload_n hx hb dX11_findAt_12 rfl (lv_at hl 2 rfl) ?_
  refine lv_iadd hx hb dX11_findAt_13 ?_
  obtain ⟨g1, h⟩ := gd_s h
  refine za_ild hx hb hK hP zI_66 g1 dX11_findAt_14 ?_
  cases h
  exact W.iret hx hb hr (fun t ht _ => ⟨rfl, ht⟩) (fun q hq => absurd hq List.not_mem_nil) dX11_findAt_15
abbrev rmX11_ruleAt : Room := { frames := 0, cells := 0, slots := 0, locals := 0 }
set_option maxHeartbeats 4000000 in
set_option maxRecDepth 100000 in
theorem k_X11_ruleAt (l : Launch) {D : va_G} {cI cJ : ClassId} {ad : Nat → Nat} {u : tU} {v : tV} {a1 : Int32} {a2 : Int32}  {r : Int32}  (h : pX11_ruleAt u v a1 a2 = some r) : Met l yX11_ruleAt wsX11_ruleAt rmX11_ruleAt (va_Pc [.ref (ad 64), .int a1, .int a2] (xPre D cI cJ (wA cI cJ ad u v))) (QcRead r) 0 0 (fun _ => False) := by
  refine Met.ofW (cc := cX11_ruleAt) (maxL := 3) (ret := (some .int)) (by decide) rfl ?_
  intro p e s m args below meth c s₁ B hml hv
  obtain ⟨rfl, hP, hK⟩ := hv
  have hx := B.exec
  have hb := B.bytes
  have hr := B.returns
  have hts := atoms_spec (ws := wsX11_ruleAt) B.pre
  have hown : s.vm.findClass RX11 = some m.cls := findClass_of_methodNamed B.named
  have hlocks := B.notSynchronized
  have hin11 : ∀ w ∈ u_ws RX11 TX11 10, w ∈ wsX11_ruleAt := fun _ h => List.mem_cons_of_mem _ (List.mem_append_right _ h)
  have hw1 := hts (.fieldLink RX11 13 "InstallDeskModel" "book" "[I") (List.mem_of_getElem? (i := 1) rfl)
  have hl := lv_entry ([.ref (ad 64), .int a1, .int a2]) (n := 3) (Nat.le_of_ble_eq_true rfl)
  rw [lg_entry_eq]
  generalize (lg_sl ([.ref (ad 64), .int a1, .int a2]) ++ List.replicate (3 - (lg_sl ([.ref (ad 64), .int a1, .int a2])).length) Slot.unset).toArray = ls at hl ⊢
  have hl : lv_has ls 3 [(0, .ref (ad 64)), (1, .int a1), (2, .int a2)] := hl
  rw [pX11_ruleAt] at h
  refine lv_aload_n hx hb dX11_ruleAt_0 rfl (lv_at hl 0 rfl) ?_
  refine za_getr (k := 2) hx hb hts hin11 hown hK hP zF_64_2 rfl (Nat.le_of_ble_eq_true rfl) (Or.inl hw1) dX11_ruleAt_1 ?_
  refine lv_bipush (v := (38 : Int32)) hx hb dX11_ruleAt_4 (by decide) ?_
  refine lv_bipush (v := (15 : Int32)) hx hb dX11_ruleAt_6 (by decide) ?_
  refine lv_iload_n hx hb dX11_ruleAt_8 rfl (lv_at hl 1 rfl) ?_
  refine lv_imul hx hb dX11_ruleAt_9 ?_
  refine lv_iadd hx hb dX11_ruleAt_10 ?_
  refine lv_iload_n hx hb dX11_ruleAt_11 rfl (lv_at hl 2 rfl) ?_
  refine lv_iadd hx hb dX11_ruleAt_12 ?_
  obtain ⟨g1, h⟩ := gd_s h
  refine za_ild hx hb hK hP zI_66 g1 dX11_ruleAt_13 ?_
  cases h
  exact W.iret hx hb hr (fun t ht _ => ⟨rfl, ht⟩) (fun q hq => absurd hq List.not_mem_nil) dX11_ruleAt_14
abbrev rmX11_fitsOf : Room := { frames := 1, cells := 0, slots := 0, locals := 22 }
set_option maxHeartbeats 4000000 in
set_option maxRecDepth 100000 in
theorem k_X11_fitsOf (l : Launch) {D : va_G} {cI cJ : ClassId} {ad : Nat → Nat} {u : tU} {v : tV} {a1 : Int32} {a2 : Int32}  {r : Int32}  (h : pX11_fitsOf u v a1 a2 = some r) : Met l yX11_fitsOf wsX11_fitsOf rmX11_fitsOf (va_Pc [.ref (ad 64), .int a1, .int a2] (xPre D cI cJ (wA cI cJ ad u v))) (QcRead r) 0 0 (fun _ => False) := by
  refine Met.ofW (cc := cX11_fitsOf) (maxL := 10) (ret := (some .boolean)) (by decide) rfl ?_
  intro p e s m args below meth c s₁ B hml hv
  obtain ⟨rfl, hP, hK⟩ := hv
  have hx := B.exec
  have hb := B.bytes
  have hr := B.returns
  have hts := atoms_spec (ws := wsX11_fitsOf) B.pre
  have hown : s.vm.findClass RX11 = some m.cls := findClass_of_methodNamed B.named
  have hlocks := B.notSynchronized
  have hl := lv_entry ([.ref (ad 64), .int a1, .int a2]) (n := 10) (Nat.le_of_ble_eq_true rfl)
  rw [lg_entry_eq]
  generalize (lg_sl ([.ref (ad 64), .int a1, .int a2]) ++ List.replicate (10 - (lg_sl ([.ref (ad 64), .int a1, .int a2])).length) Slot.unset).toArray = ls at hl ⊢
  have hl : lv_has ls 10 [(0, .ref (ad 64)), (1, .int a1), (2, .int a2)] := hl
  have L90 : ∀ (x1 : Int32) (x2 : Int32) (x6 : Int32) (n : Nat) (x7 : Int32) (x8 : Int32) (ls : Array Slot) (o : Int32), pX11_fitsOf_L90 u v x1 x2 x6 n x7 x8 = some o → lv_has ls 10 [(0, .ref (ad 64)), (1, .int x1), (2, .int x2), (6, .int x6), (7, .int x7), (8, .int x8)] → (∀ (y7 : Int32) (ls : Array Slot), o = y7 → lv_has ls 10 [(7, .int y7)] → W p l e (headSpec wsX11_fitsOf rmX11_fitsOf).room s m [Value.ref (ad 64), Value.int a1, Value.int a2].toArray below meth c s.heap [] 0 0 (MQ below (QcRead r) [Value.ref (ad 64), Value.int a1, Value.int a2].toArray s 0 0 (fun _ => False)) (F0 m 147 ls [])) → W p l e (headSpec wsX11_fitsOf rmX11_fitsOf).room s m [Value.ref (ad 64), Value.int a1, Value.int a2].toArray below meth c s.heap [] 0 0 (MQ below (QcRead r) [Value.ref (ad 64), Value.int a1, Value.int a2].toArray s 0 0 (fun _ => False)) (F0 m 90 ls []) := by
    intro x1 x2 x6 n
    induction n with
    | zero => intro x7 x8 ls o h; cases h
    | succ n ih =>
      intro x7 x8 ls o h hl hk
      rw [pX11_fitsOf_L90] at h
      refine lv_iload hx hb dX11_fitsOf_90 (lv_at hl 5 rfl) ?_
      refine lv_iload hx hb dX11_fitsOf_92 (lv_at hl 3 rfl) ?_
      refine lv_icmp_ge (tgt := 147) hx hb dX11_fitsOf_94 (by decide) (fun c1 => ?_) (fun c1 => ?_)
      · have h := vz_t c1 h
        cases h
        exact hk x7 ls rfl (lv_sub hl [4] rfl)
      · have h := vz_f c1 h
        refine lv_iload hx hb dX11_fitsOf_97 (lv_at hl 4 rfl) ?_
        refine lv_if_eq (tgt := 147) hx hb dX11_fitsOf_99 (by decide) (fun c2 => ?_) (fun c2 => ?_)
        · have h := vz_t c2 h
          cases h
          exact hk x7 ls rfl (lv_sub hl [4] rfl)
        · have h := vz_f c2 h
          refine lv_aload_n hx hb dX11_fitsOf_102 rfl (lv_at hl 0 rfl) ?_
          refine lv_iload_n hx hb dX11_fitsOf_103 rfl (lv_at hl 1 rfl) ?_
          refine lv_iconst (v := (3 : Int32)) hx hb dX11_fitsOf_104 (by decide) ?_
          refine lv_iload hx hb dX11_fitsOf_105 (lv_at hl 5 rfl) ?_
          refine lv_iadd hx hb dX11_fitsOf_107 ?_
          obtain ⟨r4, hc3, h⟩ := vz_b h
          refine za_callR (va_runV (As := [.int x1, .int ((3 : Int32) + x8)]) (rest := []) ⟨hx, hb, hml, hown, hts⟩ (k_X11_ruleAt l (D := D) (cI := cI) (cJ := cJ) (ad := ad) hc3) (cwV 2 hts gX11_fitsOf_X11_ruleAt rfl rfl rfl ⟨rfl, zd_X11_ruleAt⟩ ⟨Nat.le_of_ble_eq_true rfl, Nat.le_of_ble_eq_true rfl⟩) (xPreV (ci := 11) hK hP rfl zO_64) rfl rfl hl.1 rfl (lv_room (Nat.le_of_ble_eq_true rfl)) dX11_fitsOf_108 ⟨Nat.zero_le _, Nat.zero_le _⟩) ?_
          refine lv_istore (lv' := [(9, .int r4), (0, .ref (ad 64)), (1, .int x1), (2, .int x2), (6, .int x6), (7, .int x7), (8, .int x8)]) hx hb dX11_fitsOf_111 hl (by decide) rfl (fun ls hl => ?_)
          refine lv_iload hx hb dX11_fitsOf_113 (lv_at hl 0 rfl) ?_
          refine lv_bipush (v := (27 : Int32)) hx hb dX11_fitsOf_115 (by decide) ?_
          refine lv_icmp_eq (tgt := 134) hx hb dX11_fitsOf_117 (by decide) (fun c5 => ?_) (fun c5 => ?_)
          · have h := vz_t c5 h
            refine lv_iconst (v := (1 : Int32)) hx hb dX11_fitsOf_134 (by decide) ?_
            refine lv_goto (tgt := 139) hx hb dX11_fitsOf_135 (by decide) ?_
            refine lv_istore (lv' := [(7, .int (1 : Int32)), (9, .int r4), (0, .ref (ad 64)), (1, .int x1), (2, .int x2), (6, .int x6), (8, .int x8)]) hx hb dX11_fitsOf_139 hl (by decide) rfl (fun ls hl => ?_)
            refine lv_iinc (v := (x8 + 1)) (lv' := [(8, .int (x8 + 1)), (7, .int (1 : Int32)), (9, .int r4), (0, .ref (ad 64)), (1, .int x1), (2, .int x2), (6, .int x6)]) hx hb dX11_fitsOf_141 hl (k := 6) rfl rfl (by decide) rfl (fun ls hl => ?_)
            refine lv_goto (tgt := 90) hx hb dX11_fitsOf_144 (by decide) ?_
            exact ih (1 : Int32) (x8 + 1) ls o h (lv_sub hl [3, 4, 5, 6, 1, 0] rfl) hk
          · have h := vz_f c5 h
            refine lv_iload hx hb dX11_fitsOf_120 (lv_at hl 0 rfl) ?_
            refine lv_aload_n hx hb dX11_fitsOf_122 rfl (lv_at hl 1 rfl) ?_
            refine lv_iload_n hx hb dX11_fitsOf_123 rfl (lv_at hl 3 rfl) ?_
            refine lv_iconst (v := (4 : Int32)) hx hb dX11_fitsOf_124 (by decide) ?_
            refine lv_iload hx hb dX11_fitsOf_125 (lv_at hl 6 rfl) ?_
            refine lv_iadd hx hb dX11_fitsOf_127 ?_
            obtain ⟨r7, hc6, h⟩ := vz_b h
            refine za_callR (va_runV (As := [.int x2, .int ((4 : Int32) + x8)]) (rest := [.int r4]) ⟨hx, hb, hml, hown, hts⟩ (k_X11_findAt l (D := D) (cI := cI) (cJ := cJ) (ad := ad) hc6) (cwV 2 hts gX11_fitsOf_X11_findAt rfl rfl rfl ⟨rfl, zd_X11_findAt⟩ ⟨Nat.le_of_ble_eq_true rfl, Nat.le_of_ble_eq_true rfl⟩) (xPreV (ci := 11) hK hP rfl zO_64) rfl rfl hl.1 rfl (lv_room (Nat.le_of_ble_eq_true rfl)) dX11_fitsOf_128 ⟨Nat.zero_le _, Nat.zero_le _⟩) ?_
            refine lv_icmp_ne (tgt := 138) hx hb dX11_fitsOf_131 (by decide) (fun c8 => ?_) (fun c8 => ?_)
            · have h := vz_f c8 h
              refine lv_iconst (v := (0 : Int32)) hx hb dX11_fitsOf_138 (by decide) ?_
              refine lv_istore (lv' := [(7, .int (0 : Int32)), (9, .int r4), (0, .ref (ad 64)), (1, .int x1), (2, .int x2), (6, .int x6), (8, .int x8)]) hx hb dX11_fitsOf_139 hl (by decide) rfl (fun ls hl => ?_)
              refine lv_iinc (v := (x8 + 1)) (lv' := [(8, .int (x8 + 1)), (7, .int (0 : Int32)), (9, .int r4), (0, .ref (ad 64)), (1, .int x1), (2, .int x2), (6, .int x6)]) hx hb dX11_fitsOf_141 hl (k := 6) rfl rfl (by decide) rfl (fun ls hl => ?_)
              refine lv_goto (tgt := 90) hx hb dX11_fitsOf_144 (by decide) ?_
              exact ih (0 : Int32) (x8 + 1) ls o h (lv_sub hl [3, 4, 5, 6, 1, 0] rfl) hk
            · have h := vz_t c8 h
              refine lv_iconst (v := (1 : Int32)) hx hb dX11_fitsOf_134 (by decide) ?_
              refine lv_goto (tgt := 139) hx hb dX11_fitsOf_135 (by decide) ?_
              refine lv_istore (lv' := [(7, .int (1 : Int32)), (9, .int r4), (0, .ref (ad 64)), (1, .int x1), (2, .int x2), (6, .int x6), (8, .int x8)]) hx hb dX11_fitsOf_139 hl (by decide) rfl (fun ls hl => ?_)
              refine lv_iinc (v := (x8 + 1)) (lv' := [(8, .int (x8 + 1)), (7, .int (1 : Int32)), (9, .int r4), (0, .ref (ad 64)), (1, .int x1), (2, .int x2), (6, .int x6)]) hx hb dX11_fitsOf_141 hl (k := 6) rfl rfl (by decide) rfl (fun ls hl => ?_)
              refine lv_goto (tgt := 90) hx hb dX11_fitsOf_144 (by decide) ?_
              exact ih (1 : Int32) (x8 + 1) ls o h (lv_sub hl [3, 4, 5, 6, 1, 0] rfl) hk
  rw [pX11_fitsOf] at h
  refine lv_aload_n hx hb dX11_fitsOf_0 rfl (lv_at hl 0 rfl) ?_
  refine lv_iload_n hx hb dX11_fitsOf_1 rfl (lv_at hl 1 rfl) ?_
  refine lv_iconst (v := (2 : Int32)) hx hb dX11_fitsOf_2 (by decide) ?_
  obtain ⟨r10, hc9, h⟩ := vz_b h
  refine za_callR (va_runV (As := [.int a1, .int (2 : Int32)]) (rest := []) ⟨hx, hb, hml, hown, hts⟩ (k_X11_ruleAt l (D := D) (cI := cI) (cJ := cJ) (ad := ad) hc9) (cwV 2 hts gX11_fitsOf_X11_ruleAt rfl rfl rfl ⟨rfl, zd_X11_ruleAt⟩ ⟨Nat.le_of_ble_eq_true rfl, Nat.le_of_ble_eq_true rfl⟩) (xPreV (ci := 11) hK hP rfl zO_64) rfl rfl hl.1 rfl (lv_room (Nat.le_of_ble_eq_true rfl)) dX11_fitsOf_3 ⟨Nat.zero_le _, Nat.zero_le _⟩) ?_
  refine lv_istore_n (lv' := [(3, .int r10), (0, .ref (ad 64)), (1, .int a1), (2, .int a2)]) hx hb dX11_fitsOf_6 rfl hl (by decide) rfl (fun ls hl => ?_)
  refine lv_aload_n hx hb dX11_fitsOf_7 rfl (lv_at hl 1 rfl) ?_
  refine lv_iload_n hx hb dX11_fitsOf_8 rfl (lv_at hl 3 rfl) ?_
  refine lv_iconst (v := (3 : Int32)) hx hb dX11_fitsOf_9 (by decide) ?_
  obtain ⟨r12, hc11, h⟩ := vz_b h
  refine za_callR (va_runV (As := [.int a2, .int (3 : Int32)]) (rest := []) ⟨hx, hb, hml, hown, hts⟩ (k_X11_findAt l (D := D) (cI := cI) (cJ := cJ) (ad := ad) hc11) (cwV 2 hts gX11_fitsOf_X11_findAt rfl rfl rfl ⟨rfl, zd_X11_findAt⟩ ⟨Nat.le_of_ble_eq_true rfl, Nat.le_of_ble_eq_true rfl⟩) (xPreV (ci := 11) hK hP rfl zO_64) rfl rfl hl.1 rfl (lv_room (Nat.le_of_ble_eq_true rfl)) dX11_fitsOf_10 ⟨Nat.zero_le _, Nat.zero_le _⟩) ?_
  refine lv_istore (lv' := [(4, .int r12), (3, .int r10), (0, .ref (ad 64)), (1, .int a1), (2, .int a2)]) hx hb dX11_fitsOf_13 hl (by decide) rfl (fun ls hl => ?_)
  refine lv_iload_n hx hb dX11_fitsOf_15 rfl (lv_at hl 1 rfl) ?_
  refine lv_if_le (tgt := 36) hx hb dX11_fitsOf_16 (by decide) (fun c13 => ?_) (fun c13 => ?_)
  · have h := vz_t c13 h
    refine lv_iconst (v := (0 : Int32)) hx hb dX11_fitsOf_36 (by decide) ?_
    refine lv_istore (lv' := [(5, .int (0 : Int32)), (4, .int r12), (3, .int r10), (0, .ref (ad 64)), (1, .int a1), (2, .int a2)]) hx hb dX11_fitsOf_37 hl (by decide) rfl (fun ls hl => ?_)
    refine lv_iload hx hb dX11_fitsOf_39 (lv_at hl 0 rfl) ?_
    refine lv_if_eq (tgt := 50) hx hb dX11_fitsOf_41 (by decide) (fun c14 => ?_) (fun c14 => ?_)
    rotate_left
    · exact absurd c14 (by decide)
    refine lv_iload_n hx hb dX11_fitsOf_50 rfl (lv_at hl 2 rfl) ?_
    refine lv_istore (lv' := [(6, .int r10), (5, .int (0 : Int32)), (4, .int r12), (3, .int r10), (0, .ref (ad 64)), (1, .int a1), (2, .int a2)]) hx hb dX11_fitsOf_51 hl (by decide) rfl (fun ls hl => ?_)
    refine lv_iload hx hb dX11_fitsOf_53 (lv_at hl 1 rfl) ?_
    refine lv_if_eq (tgt := 73) hx hb dX11_fitsOf_55 (by decide) (fun c15 => ?_) (fun c15 => ?_)
    rotate_left
    · exact absurd c15 (by decide)
    refine lv_iload hx hb dX11_fitsOf_73 (lv_at hl 2 rfl) ?_
    refine lv_iload hx hb dX11_fitsOf_75 (lv_at hl 0 rfl) ?_
    refine lv_icmp_ne (tgt := 84) hx hb dX11_fitsOf_77 (by decide) (fun c16 => ?_) (fun c16 => ?_)
    · have h := vz_f c16 h
      refine lv_iconst (v := (0 : Int32)) hx hb dX11_fitsOf_84 (by decide) ?_
      refine lv_istore (lv' := [(7, .int (0 : Int32)), (6, .int r10), (5, .int (0 : Int32)), (4, .int r12), (3, .int r10), (0, .ref (ad 64)), (1, .int a1), (2, .int a2)]) hx hb dX11_fitsOf_85 hl (by decide) rfl (fun ls hl => ?_)
      refine lv_iconst (v := (0 : Int32)) hx hb dX11_fitsOf_87 (by decide) ?_
      refine lv_istore (lv' := [(8, .int (0 : Int32)), (7, .int (0 : Int32)), (6, .int r10), (5, .int (0 : Int32)), (4, .int r12), (3, .int r10), (0, .ref (ad 64)), (1, .int a1), (2, .int a2)]) hx hb dX11_fitsOf_88 hl (by decide) rfl (fun ls hl => ?_)
      obtain ⟨o17, hL18, h⟩ := vz_b h
      refine L90 a1 a2 r10 fuel (0 : Int32) (0 : Int32) ls o17 hL18 (lv_sub hl [6, 7, 8, 2, 1, 0] rfl) (fun y20 ls e19 hl => ?_)
      try rw [e19] at h
      try dsimp only at h
      refine lv_iload hx hb dX11_fitsOf_147 (lv_at hl 0 rfl) ?_
      obtain ⟨hn, h⟩ := gb_s h
      cases h
      exact W.zret hx hb hr hn (fun t ht _ => ⟨rfl, ht⟩) (fun q hq => absurd hq List.not_mem_nil) dX11_fitsOf_149
    · have h := vz_t c16 h
      refine lv_iconst (v := (1 : Int32)) hx hb dX11_fitsOf_80 (by decide) ?_
      refine lv_goto (tgt := 85) hx hb dX11_fitsOf_81 (by decide) ?_
      refine lv_istore (lv' := [(7, .int (1 : Int32)), (6, .int r10), (5, .int (0 : Int32)), (4, .int r12), (3, .int r10), (0, .ref (ad 64)), (1, .int a1), (2, .int a2)]) hx hb dX11_fitsOf_85 hl (by decide) rfl (fun ls hl => ?_)
      refine lv_iconst (v := (0 : Int32)) hx hb dX11_fitsOf_87 (by decide) ?_
      refine lv_istore (lv' := [(8, .int (0 : Int32)), (7, .int (1 : Int32)), (6, .int r10), (5, .int (0 : Int32)), (4, .int r12), (3, .int r10), (0, .ref (ad 64)), (1, .int a1), (2, .int a2)]) hx hb dX11_fitsOf_88 hl (by decide) rfl (fun ls hl => ?_)
      obtain ⟨o21, hL22, h⟩ := vz_b h
      refine L90 a1 a2 r10 fuel (1 : Int32) (0 : Int32) ls o21 hL22 (lv_sub hl [6, 7, 8, 2, 1, 0] rfl) (fun y24 ls e23 hl => ?_)
      try rw [e23] at h
      try dsimp only at h
      refine lv_iload hx hb dX11_fitsOf_147 (lv_at hl 0 rfl) ?_
      obtain ⟨hn, h⟩ := gb_s h
      cases h
      exact W.zret hx hb hr hn (fun t ht _ => ⟨rfl, ht⟩) (fun q hq => absurd hq List.not_mem_nil) dX11_fitsOf_149
  · have h := vz_f c13 h
    refine lv_aload_n hx hb dX11_fitsOf_19 rfl (lv_at hl 2 rfl) ?_
    refine lv_iload_n hx hb dX11_fitsOf_20 rfl (lv_at hl 3 rfl) ?_
    refine lv_iconst (v := (2 : Int32)) hx hb dX11_fitsOf_21 (by decide) ?_
    refine lv_iload_n hx hb dX11_fitsOf_22 rfl (lv_at hl 1 rfl) ?_
    refine lv_iadd hx hb dX11_fitsOf_23 ?_
    obtain ⟨r26, hc25, h⟩ := vz_b h
    refine za_callR (va_runV (As := [.int a1, .int ((2 : Int32) + r10)]) (rest := []) ⟨hx, hb, hml, hown, hts⟩ (k_X11_ruleAt l (D := D) (cI := cI) (cJ := cJ) (ad := ad) hc25) (cwV 2 hts gX11_fitsOf_X11_ruleAt rfl rfl rfl ⟨rfl, zd_X11_ruleAt⟩ ⟨Nat.le_of_ble_eq_true rfl, Nat.le_of_ble_eq_true rfl⟩) (xPreV (ci := 11) hK hP rfl zO_64) rfl rfl hl.1 rfl (lv_room (Nat.le_of_ble_eq_true rfl)) dX11_fitsOf_24 ⟨Nat.zero_le _, Nat.zero_le _⟩) ?_
    refine lv_bipush (v := (28 : Int32)) hx hb dX11_fitsOf_27 (by decide) ?_
    refine lv_icmp_ne (tgt := 36) hx hb dX11_fitsOf_29 (by decide) (fun c27 => ?_) (fun c27 => ?_)
    · have h := vz_f c27 h
      refine lv_iconst (v := (0 : Int32)) hx hb dX11_fitsOf_36 (by decide) ?_
      refine lv_istore (lv' := [(5, .int (0 : Int32)), (4, .int r12), (3, .int r10), (0, .ref (ad 64)), (1, .int a1), (2, .int a2)]) hx hb dX11_fitsOf_37 hl (by decide) rfl (fun ls hl => ?_)
      refine lv_iload hx hb dX11_fitsOf_39 (lv_at hl 0 rfl) ?_
      refine lv_if_eq (tgt := 50) hx hb dX11_fitsOf_41 (by decide) (fun c28 => ?_) (fun c28 => ?_)
      rotate_left
      · exact absurd c28 (by decide)
      refine lv_iload_n hx hb dX11_fitsOf_50 rfl (lv_at hl 2 rfl) ?_
      refine lv_istore (lv' := [(6, .int r10), (5, .int (0 : Int32)), (4, .int r12), (3, .int r10), (0, .ref (ad 64)), (1, .int a1), (2, .int a2)]) hx hb dX11_fitsOf_51 hl (by decide) rfl (fun ls hl => ?_)
      refine lv_iload hx hb dX11_fitsOf_53 (lv_at hl 1 rfl) ?_
      refine lv_if_eq (tgt := 73) hx hb dX11_fitsOf_55 (by decide) (fun c29 => ?_) (fun c29 => ?_)
      rotate_left
      · exact absurd c29 (by decide)
      refine lv_iload hx hb dX11_fitsOf_73 (lv_at hl 2 rfl) ?_
      refine lv_iload hx hb dX11_fitsOf_75 (lv_at hl 0 rfl) ?_
      refine lv_icmp_ne (tgt := 84) hx hb dX11_fitsOf_77 (by decide) (fun c30 => ?_) (fun c30 => ?_)
      · have h := vz_f c30 h
        refine lv_iconst (v := (0 : Int32)) hx hb dX11_fitsOf_84 (by decide) ?_
        refine lv_istore (lv' := [(7, .int (0 : Int32)), (6, .int r10), (5, .int (0 : Int32)), (4, .int r12), (3, .int r10), (0, .ref (ad 64)), (1, .int a1), (2, .int a2)]) hx hb dX11_fitsOf_85 hl (by decide) rfl (fun ls hl => ?_)
        refine lv_iconst (v := (0 : Int32)) hx hb dX11_fitsOf_87 (by decide) ?_
        refine lv_istore (lv' := [(8, .int (0 : Int32)), (7, .int (0 : Int32)), (6, .int r10), (5, .int (0 : Int32)), (4, .int r12), (3, .int r10), (0, .ref (ad 64)), (1, .int a1), (2, .int a2)]) hx hb dX11_fitsOf_88 hl (by decide) rfl (fun ls hl => ?_)
        obtain ⟨o31, hL32, h⟩ := vz_b h
        refine L90 a1 a2 r10 fuel (0 : Int32) (0 : Int32) ls o31 hL32 (lv_sub hl [6, 7, 8, 2, 1, 0] rfl) (fun y34 ls e33 hl => ?_)
        try rw [e33] at h
        try dsimp only at h
        refine lv_iload hx hb dX11_fitsOf_147 (lv_at hl 0 rfl) ?_
        obtain ⟨hn, h⟩ := gb_s h
        cases h
        exact W.zret hx hb hr hn (fun t ht _ => ⟨rfl, ht⟩) (fun q hq => absurd hq List.not_mem_nil) dX11_fitsOf_149
      · have h := vz_t c30 h
        refine lv_iconst (v := (1 : Int32)) hx hb dX11_fitsOf_80 (by decide) ?_
        refine lv_goto (tgt := 85) hx hb dX11_fitsOf_81 (by decide) ?_
        refine lv_istore (lv' := [(7, .int (1 : Int32)), (6, .int r10), (5, .int (0 : Int32)), (4, .int r12), (3, .int r10), (0, .ref (ad 64)), (1, .int a1), (2, .int a2)]) hx hb dX11_fitsOf_85 hl (by decide) rfl (fun ls hl => ?_)
        refine lv_iconst (v := (0 : Int32)) hx hb dX11_fitsOf_87 (by decide) ?_
        refine lv_istore (lv' := [(8, .int (0 : Int32)), (7, .int (1 : Int32)), (6, .int r10), (5, .int (0 : Int32)), (4, .int r12), (3, .int r10), (0, .ref (ad 64)), (1, .int a1), (2, .int a2)]) hx hb dX11_fitsOf_88 hl (by decide) rfl (fun ls hl => ?_)
        obtain ⟨o35, hL36, h⟩ := vz_b h
        refine L90 a1 a2 r10 fuel (1 : Int32) (0 : Int32) ls o35 hL36 (lv_sub hl [6, 7, 8, 2, 1, 0] rfl) (fun y38 ls e37 hl => ?_)
        try rw [e37] at h
        try dsimp only at h
        refine lv_iload hx hb dX11_fitsOf_147 (lv_at hl 0 rfl) ?_
        obtain ⟨hn, h⟩ := gb_s h
        cases h
        exact W.zret hx hb hr hn (fun t ht _ => ⟨rfl, ht⟩) (fun q hq => absurd hq List.not_mem_nil) dX11_fitsOf_149
    · have h := vz_t c27 h
      refine lv_iconst (v := (1 : Int32)) hx hb dX11_fitsOf_32 (by decide) ?_
      refine lv_goto (tgt := 37) hx hb dX11_fitsOf_33 (by decide) ?_
      refine lv_istore (lv' := [(5, .int (1 : Int32)), (4, .int r12), (3, .int r10), (0, .ref (ad 64)), (1, .int a1), (2, .int a2)]) hx hb dX11_fitsOf_37 hl (by decide) rfl (fun ls hl => ?_)
      refine lv_iload hx hb dX11_fitsOf_39 (lv_at hl 0 rfl) ?_
      refine lv_if_eq (tgt := 50) hx hb dX11_fitsOf_41 (by decide) (fun c39 => ?_) (fun c39 => ?_)
      · exact absurd c39 (by decide)
      refine lv_iload_n hx hb dX11_fitsOf_44 rfl (lv_at hl 2 rfl) ?_
      refine lv_iconst (v := (1 : Int32)) hx hb dX11_fitsOf_45 (by decide) ?_
      refine lv_isub hx hb dX11_fitsOf_46 ?_
      refine lv_goto (tgt := 51) hx hb dX11_fitsOf_47 (by decide) ?_
      refine lv_istore (lv' := [(6, .int (r10 - (1 : Int32))), (5, .int (1 : Int32)), (4, .int r12), (3, .int r10), (0, .ref (ad 64)), (1, .int a1), (2, .int a2)]) hx hb dX11_fitsOf_51 hl (by decide) rfl (fun ls hl => ?_)
      refine lv_iload hx hb dX11_fitsOf_53 (lv_at hl 1 rfl) ?_
      refine lv_if_eq (tgt := 73) hx hb dX11_fitsOf_55 (by decide) (fun c40 => ?_) (fun c40 => ?_)
      · exact absurd c40 (by decide)
      refine lv_iload hx hb dX11_fitsOf_58 (lv_at hl 2 rfl) ?_
      refine lv_iload hx hb dX11_fitsOf_60 (lv_at hl 0 rfl) ?_
      refine lv_icmp_lt (tgt := 69) hx hb dX11_fitsOf_62 (by decide) (fun c41 => ?_) (fun c41 => ?_)
      · have h := vz_t c41 h
        refine lv_iconst (v := (0 : Int32)) hx hb dX11_fitsOf_69 (by decide) ?_
        refine lv_goto (tgt := 85) hx hb dX11_fitsOf_70 (by decide) ?_
        refine lv_istore (lv' := [(7, .int (0 : Int32)), (6, .int (r10 - (1 : Int32))), (5, .int (1 : Int32)), (4, .int r12), (3, .int r10), (0, .ref (ad 64)), (1, .int a1), (2, .int a2)]) hx hb dX11_fitsOf_85 hl (by decide) rfl (fun ls hl => ?_)
        refine lv_iconst (v := (0 : Int32)) hx hb dX11_fitsOf_87 (by decide) ?_
        refine lv_istore (lv' := [(8, .int (0 : Int32)), (7, .int (0 : Int32)), (6, .int (r10 - (1 : Int32))), (5, .int (1 : Int32)), (4, .int r12), (3, .int r10), (0, .ref (ad 64)), (1, .int a1), (2, .int a2)]) hx hb dX11_fitsOf_88 hl (by decide) rfl (fun ls hl => ?_)
        obtain ⟨o42, hL43, h⟩ := vz_b h
        refine L90 a1 a2 (r10 - (1 : Int32)) fuel (0 : Int32) (0 : Int32) ls o42 hL43 (lv_sub hl [6, 7, 8, 2, 1, 0] rfl) (fun y45 ls e44 hl => ?_)
        try rw [e44] at h
        try dsimp only at h
        refine lv_iload hx hb dX11_fitsOf_147 (lv_at hl 0 rfl) ?_
        obtain ⟨hn, h⟩ := gb_s h
        cases h
        exact W.zret hx hb hr hn (fun t ht _ => ⟨rfl, ht⟩) (fun q hq => absurd hq List.not_mem_nil) dX11_fitsOf_149
      · have h := vz_f c41 h
        refine lv_iconst (v := (1 : Int32)) hx hb dX11_fitsOf_65 (by decide) ?_
        refine lv_goto (tgt := 85) hx hb dX11_fitsOf_66 (by decide) ?_
        refine lv_istore (lv' := [(7, .int (1 : Int32)), (6, .int (r10 - (1 : Int32))), (5, .int (1 : Int32)), (4, .int r12), (3, .int r10), (0, .ref (ad 64)), (1, .int a1), (2, .int a2)]) hx hb dX11_fitsOf_85 hl (by decide) rfl (fun ls hl => ?_)
        refine lv_iconst (v := (0 : Int32)) hx hb dX11_fitsOf_87 (by decide) ?_
        refine lv_istore (lv' := [(8, .int (0 : Int32)), (7, .int (1 : Int32)), (6, .int (r10 - (1 : Int32))), (5, .int (1 : Int32)), (4, .int r12), (3, .int r10), (0, .ref (ad 64)), (1, .int a1), (2, .int a2)]) hx hb dX11_fitsOf_88 hl (by decide) rfl (fun ls hl => ?_)
        obtain ⟨o46, hL47, h⟩ := vz_b h
        refine L90 a1 a2 (r10 - (1 : Int32)) fuel (1 : Int32) (0 : Int32) ls o46 hL47 (lv_sub hl [6, 7, 8, 2, 1, 0] rfl) (fun y49 ls e48 hl => ?_)
        try rw [e48] at h
        try dsimp only at h
        refine lv_iload hx hb dX11_fitsOf_147 (lv_at hl 0 rfl) ?_
        obtain ⟨hn, h⟩ := gb_s h
        cases h
        exact W.zret hx hb hr hn (fun t ht _ => ⟨rfl, ht⟩) (fun q hq => absurd hq List.not_mem_nil) dX11_fitsOf_149
abbrev rmX11_firstRule : Room := { frames := 2, cells := 0, slots := 0, locals := 51 }
set_option maxHeartbeats 4000000 in
set_option maxRecDepth 100000 in
theorem k_X11_firstRule (l : Launch) {D : va_G} {cI cJ : ClassId} {ad : Nat → Nat} {u : tU} {v : tV} {a1 : Int32}  {r : Int32}  (h : pX11_firstRule u v a1 = some r) : Met l yX11_firstRule wsX11_firstRule rmX11_firstRule (va_Pc [.ref (ad 64), .int a1] (xPre D cI cJ (wA cI cJ ad u v))) (QcRead r) 0 0 (fun _ => False) := by
  refine Met.ofW (cc := cX11_firstRule) (maxL := 4) (ret := (some .int)) (by decide) rfl ?_
  intro p e s m args below meth c s₁ B hml hv
  obtain ⟨rfl, hP, hK⟩ := hv
  have hx := B.exec
  have hb := B.bytes
  have hr := B.returns
  have hts := atoms_spec (ws := wsX11_firstRule) B.pre
  have hown : s.vm.findClass RX11 = some m.cls := findClass_of_methodNamed B.named
  have hlocks := B.notSynchronized
  have hin11 : ∀ w ∈ u_ws RX11 TX11 10, w ∈ wsX11_firstRule := fun _ h => List.mem_cons_of_mem _ (List.mem_append_right _ h)
  have hw1 := hts (.fieldLink RX11 13 "InstallDeskModel" "book" "[I") (List.mem_of_getElem? (i := 1) rfl)
  have hl := lv_entry ([.ref (ad 64), .int a1]) (n := 4) (Nat.le_of_ble_eq_true rfl)
  rw [lg_entry_eq]
  generalize (lg_sl ([.ref (ad 64), .int a1]) ++ List.replicate (4 - (lg_sl ([.ref (ad 64), .int a1])).length) Slot.unset).toArray = ls at hl ⊢
  have hl : lv_has ls 4 [(0, .ref (ad 64)), (1, .int a1)] := hl
  have L4 : ∀ (x1 : Int32) (n : Nat) (x2 : Int32) (x3 : Int32) (ls : Array Slot) (o : Int32), pX11_firstRule_L4 u v x1 n x2 x3 = some o → lv_has ls 4 [(0, .ref (ad 64)), (1, .int x1), (2, .int x2), (3, .int x3)] → (∀ (y2 : Int32) (ls : Array Slot), o = y2 → lv_has ls 4 [(2, .int y2)] → W p l e (headSpec wsX11_firstRule rmX11_firstRule).room s m [Value.ref (ad 64), Value.int a1].toArray below meth c s.heap [] 0 0 (MQ below (QcRead r) [Value.ref (ad 64), Value.int a1].toArray s 0 0 (fun _ => False)) (F0 m 54 ls [])) → W p l e (headSpec wsX11_firstRule rmX11_firstRule).room s m [Value.ref (ad 64), Value.int a1].toArray below meth c s.heap [] 0 0 (MQ below (QcRead r) [Value.ref (ad 64), Value.int a1].toArray s 0 0 (fun _ => False)) (F0 m 4 ls []) := by
    intro x1 n
    induction n with
    | zero => intro x2 x3 ls o h; cases h
    | succ n ih =>
      intro x2 x3 ls o h hl hk
      rw [pX11_firstRule_L4] at h
      refine lv_iload_n hx hb dX11_firstRule_4 rfl (lv_at hl 3 rfl) ?_
      refine lv_aload_n hx hb dX11_firstRule_5 rfl (lv_at hl 0 rfl) ?_
      refine za_getr (k := 2) hx hb hts hin11 hown hK hP zF_64_2 rfl (Nat.le_of_ble_eq_true rfl) (Or.inl hw1) dX11_firstRule_6 ?_
      refine lv_iconst (v := (1 : Int32)) hx hb dX11_firstRule_9 (by decide) ?_
      refine za_ildc (j := 1) hx hb hK hP zI_66 (by unfold vp_in; decide) rfl dX11_firstRule_10 ?_
      refine lv_icmp_ge (tgt := 54) hx hb dX11_firstRule_11 (by decide) (fun c1 => ?_) (fun c1 => ?_)
      · have h := vz_t c1 h
        cases h
        exact hk x2 ls rfl (lv_sub hl [2] rfl)
      · have h := vz_f c1 h
        refine lv_aload_n hx hb dX11_firstRule_14 rfl (lv_at hl 0 rfl) ?_
        refine lv_iload_n hx hb dX11_firstRule_15 rfl (lv_at hl 3 rfl) ?_
        refine lv_iload_n hx hb dX11_firstRule_16 rfl (lv_at hl 1 rfl) ?_
        obtain ⟨r3, hc2, h⟩ := vz_b h
        refine za_callR (va_runV (As := [.int x3, .int x1]) (rest := []) ⟨hx, hb, hml, hown, hts⟩ (k_X11_fitsOf l (D := D) (cI := cI) (cJ := cJ) (ad := ad) hc2) (cwV 2 hts gX11_firstRule_X11_fitsOf rfl rfl rfl ⟨rfl, zd_X11_fitsOf⟩ ⟨Nat.le_of_ble_eq_true rfl, Nat.le_of_ble_eq_true rfl⟩) (xPreV (ci := 11) hK hP rfl zO_64) rfl rfl hl.1 rfl (lv_room (Nat.le_of_ble_eq_true rfl)) dX11_firstRule_17 ⟨Nat.zero_le _, Nat.zero_le _⟩) ?_
        refine lv_if_eq (tgt := 46) hx hb dX11_firstRule_20 (by decide) (fun c4 => ?_) (fun c4 => ?_)
        · have h := vz_t c4 h
          refine lv_iload_n hx hb dX11_firstRule_46 rfl (lv_at hl 2 rfl) ?_
          refine lv_istore_n (lv' := [(2, .int x2), (0, .ref (ad 64)), (1, .int x1), (3, .int x3)]) hx hb dX11_firstRule_47 rfl hl (by decide) rfl (fun ls hl => ?_)
          refine lv_iinc (v := (x3 + 1)) (lv' := [(3, .int (x3 + 1)), (2, .int x2), (0, .ref (ad 64)), (1, .int x1)]) hx hb dX11_firstRule_48 hl (k := 3) rfl rfl (by decide) rfl (fun ls hl => ?_)
          refine lv_goto (tgt := 4) hx hb dX11_firstRule_51 (by decide) ?_
          exact ih x2 (x3 + 1) ls o h (lv_sub hl [2, 3, 1, 0] rfl) hk
        · have h := vz_f c4 h
          refine lv_iload_n hx hb dX11_firstRule_23 rfl (lv_at hl 2 rfl) ?_
          refine lv_if_lt (tgt := 42) hx hb dX11_firstRule_24 (by decide) (fun c5 => ?_) (fun c5 => ?_)
          · have h := vz_t c5 h
            refine lv_iload_n hx hb dX11_firstRule_42 rfl (lv_at hl 3 rfl) ?_
            refine lv_goto (tgt := 47) hx hb dX11_firstRule_43 (by decide) ?_
            refine lv_istore_n (lv' := [(2, .int x3), (0, .ref (ad 64)), (1, .int x1), (3, .int x3)]) hx hb dX11_firstRule_47 rfl hl (by decide) rfl (fun ls hl => ?_)
            refine lv_iinc (v := (x3 + 1)) (lv' := [(3, .int (x3 + 1)), (2, .int x3), (0, .ref (ad 64)), (1, .int x1)]) hx hb dX11_firstRule_48 hl (k := 3) rfl rfl (by decide) rfl (fun ls hl => ?_)
            refine lv_goto (tgt := 4) hx hb dX11_firstRule_51 (by decide) ?_
            exact ih x3 (x3 + 1) ls o h (lv_sub hl [2, 3, 1, 0] rfl) hk
          · have h := vz_f c5 h
            refine lv_aload_n hx hb dX11_firstRule_27 rfl (lv_at hl 0 rfl) ?_
            refine lv_iload_n hx hb dX11_firstRule_28 rfl (lv_at hl 3 rfl) ?_
            refine lv_iconst (v := (0 : Int32)) hx hb dX11_firstRule_29 (by decide) ?_
            obtain ⟨r7, hc6, h⟩ := vz_b h
            refine za_callR (va_runV (As := [.int x3, .int (0 : Int32)]) (rest := []) ⟨hx, hb, hml, hown, hts⟩ (k_X11_ruleAt l (D := D) (cI := cI) (cJ := cJ) (ad := ad) hc6) (cwV 2 hts gX11_firstRule_X11_ruleAt rfl rfl rfl ⟨rfl, zd_X11_ruleAt⟩ ⟨Nat.le_of_ble_eq_true rfl, Nat.le_of_ble_eq_true rfl⟩) (xPreV (ci := 11) hK hP rfl zO_64) rfl rfl hl.1 rfl (lv_room (Nat.le_of_ble_eq_true rfl)) dX11_firstRule_30 ⟨Nat.zero_le _, Nat.zero_le _⟩) ?_
            refine lv_aload_n hx hb dX11_firstRule_33 rfl (lv_at hl 0 rfl) ?_
            refine lv_iload_n hx hb dX11_firstRule_34 rfl (lv_at hl 2 rfl) ?_
            refine lv_iconst (v := (0 : Int32)) hx hb dX11_firstRule_35 (by decide) ?_
            obtain ⟨r9, hc8, h⟩ := vz_b h
            refine za_callR (va_runV (As := [.int x2, .int (0 : Int32)]) (rest := [.int r7]) ⟨hx, hb, hml, hown, hts⟩ (k_X11_ruleAt l (D := D) (cI := cI) (cJ := cJ) (ad := ad) hc8) (cwV 2 hts gX11_firstRule_X11_ruleAt rfl rfl rfl ⟨rfl, zd_X11_ruleAt⟩ ⟨Nat.le_of_ble_eq_true rfl, Nat.le_of_ble_eq_true rfl⟩) (xPreV (ci := 11) hK hP rfl zO_64) rfl rfl hl.1 rfl (lv_room (Nat.le_of_ble_eq_true rfl)) dX11_firstRule_36 ⟨Nat.zero_le _, Nat.zero_le _⟩) ?_
            refine lv_icmp_ge (tgt := 46) hx hb dX11_firstRule_39 (by decide) (fun c10 => ?_) (fun c10 => ?_)
            · have h := vz_t c10 h
              refine lv_iload_n hx hb dX11_firstRule_46 rfl (lv_at hl 2 rfl) ?_
              refine lv_istore_n (lv' := [(2, .int x2), (0, .ref (ad 64)), (1, .int x1), (3, .int x3)]) hx hb dX11_firstRule_47 rfl hl (by decide) rfl (fun ls hl => ?_)
              refine lv_iinc (v := (x3 + 1)) (lv' := [(3, .int (x3 + 1)), (2, .int x2), (0, .ref (ad 64)), (1, .int x1)]) hx hb dX11_firstRule_48 hl (k := 3) rfl rfl (by decide) rfl (fun ls hl => ?_)
              refine lv_goto (tgt := 4) hx hb dX11_firstRule_51 (by decide) ?_
              exact ih x2 (x3 + 1) ls o h (lv_sub hl [2, 3, 1, 0] rfl) hk
            · have h := vz_f c10 h
              refine lv_iload_n hx hb dX11_firstRule_42 rfl (lv_at hl 3 rfl) ?_
              refine lv_goto (tgt := 47) hx hb dX11_firstRule_43 (by decide) ?_
              refine lv_istore_n (lv' := [(2, .int x3), (0, .ref (ad 64)), (1, .int x1), (3, .int x3)]) hx hb dX11_firstRule_47 rfl hl (by decide) rfl (fun ls hl => ?_)
              refine lv_iinc (v := (x3 + 1)) (lv' := [(3, .int (x3 + 1)), (2, .int x3), (0, .ref (ad 64)), (1, .int x1)]) hx hb dX11_firstRule_48 hl (k := 3) rfl rfl (by decide) rfl (fun ls hl => ?_)
              refine lv_goto (tgt := 4) hx hb dX11_firstRule_51 (by decide) ?_
              exact ih x3 (x3 + 1) ls o h (lv_sub hl [2, 3, 1, 0] rfl) hk
  rw [pX11_firstRule] at h
  refine lv_iconst (v := (-1 : Int32)) hx hb dX11_firstRule_0 (by decide) ?_
  refine lv_istore_n (lv' := [(2, .int (-1 : Int32)), (0, .ref (ad 64)), (1, .int a1)]) hx hb dX11_firstRule_1 rfl hl (by decide) rfl (fun ls hl => ?_)
  refine lv_iconst (v := (0 : Int32)) hx hb dX11_firstRule_2 (by decide) ?_
  refine lv_istore_n (lv' := [(3, .int (0 : Int32)), (2, .int (-1 : Int32)), (0, .ref (ad 64)), (1, .int a1)]) hx hb dX11_firstRule_3 rfl hl (by decide) rfl (fun ls hl => ?_)
  obtain ⟨o11, hL12, h⟩ := vz_b h
  refine L4 a1 fuel (-1 : Int32) (0 : Int32) ls o11 hL12 (lv_sub hl [2, 3, 1, 0] rfl) (fun y14 ls e13 hl => ?_)
  try rw [e13] at h
  try dsimp only at h
  refine lv_iload_n hx hb dX11_firstRule_54 rfl (lv_at hl 0 rfl) ?_
  cases h
  exact W.iret hx hb hr (fun t ht _ => ⟨rfl, ht⟩) (fun q hq => absurd hq List.not_mem_nil) dX11_firstRule_55
abbrev rmX11_goesTo : Room := { frames := 3, cells := 0, slots := 0, locals := 74 }
set_option maxHeartbeats 4000000 in
set_option maxRecDepth 100000 in
theorem k_X11_goesTo (l : Launch) {D : va_G} {cI cJ : ClassId} {ad : Nat → Nat} {u : tU} {v : tV} {a1 : Int32}  {r : Int32}  (h : pX11_goesTo u v a1 = some r) : Met l yX11_goesTo wsX11_goesTo rmX11_goesTo (va_Pc [.ref (ad 64), .int a1] (xPre D cI cJ (wA cI cJ ad u v))) (QcRead r) 0 0 (fun _ => False) := by
  refine Met.ofW (cc := cX11_goesTo) (maxL := 5) (ret := (some .int)) (by decide) rfl ?_
  intro p e s m args below meth c s₁ B hml hv
  obtain ⟨rfl, hP, hK⟩ := hv
  have hx := B.exec
  have hb := B.bytes
  have hr := B.returns
  have hts := atoms_spec (ws := wsX11_goesTo) B.pre
  have hown : s.vm.findClass RX11 = some m.cls := findClass_of_methodNamed B.named
  have hlocks := B.notSynchronized
  have hin11 : ∀ w ∈ u_ws RX11 TX11 10, w ∈ wsX11_goesTo := fun _ h => List.mem_cons_of_mem _ (List.mem_append_right _ h)
  have hw1 := hts (.fieldLink RX11 13 "InstallDeskModel" "book" "[I") (List.mem_of_getElem? (i := 1) rfl)
  have hl := lv_entry ([.ref (ad 64), .int a1]) (n := 5) (Nat.le_of_ble_eq_true rfl)
  rw [lg_entry_eq]
  generalize (lg_sl ([.ref (ad 64), .int a1]) ++ List.replicate (5 - (lg_sl ([.ref (ad 64), .int a1])).length) Slot.unset).toArray = ls at hl ⊢
  have hl : lv_has ls 5 [(0, .ref (ad 64)), (1, .int a1)] := hl
  have L25 : ∀ (x1 : Int32) (x2 : Int32) (x3 : Int32) (n : Nat) (x4 : Int32) (ls : Array Slot) (o : (Int32) ⊕ (Unit)), pX11_goesTo_L25 u v x1 x2 x3 n x4 = some o → lv_has ls 5 [(0, .ref (ad 64)), (1, .int x1), (2, .int x2), (3, .int x3), (4, .int x4)] → (∀ rr : Int32, o = .inl rr → rr = r) → (∀ (ls : Array Slot), o = .inr () → lv_has ls 5 [(3, .int x3)] → W p l e (headSpec wsX11_goesTo rmX11_goesTo).room s m [Value.ref (ad 64), Value.int a1].toArray below meth c s.heap [] 0 0 (MQ below (QcRead r) [Value.ref (ad 64), Value.int a1].toArray s 0 0 (fun _ => False)) (F0 m 82 ls [])) → W p l e (headSpec wsX11_goesTo rmX11_goesTo).room s m [Value.ref (ad 64), Value.int a1].toArray below meth c s.heap [] 0 0 (MQ below (QcRead r) [Value.ref (ad 64), Value.int a1].toArray s 0 0 (fun _ => False)) (F0 m 25 ls []) := by
    intro x1 x2 x3 n
    induction n with
    | zero => intro x4 ls o h; cases h
    | succ n ih =>
      intro x4 ls o h hl hret hk
      rw [pX11_goesTo_L25] at h
      refine lv_iload hx hb dX11_goesTo_25 (lv_at hl 4 rfl) ?_
      refine lv_aload_n hx hb dX11_goesTo_27 rfl (lv_at hl 0 rfl) ?_
      refine za_getr (k := 2) hx hb hts hin11 hown hK hP zF_64_2 rfl (Nat.le_of_ble_eq_true rfl) (Or.inl hw1) dX11_goesTo_28 ?_
      refine lv_iconst (v := (1 : Int32)) hx hb dX11_goesTo_31 (by decide) ?_
      refine za_ildc (j := 1) hx hb hK hP zI_66 (by unfold vp_in; decide) rfl dX11_goesTo_32 ?_
      refine lv_icmp_ge (tgt := 82) hx hb dX11_goesTo_33 (by decide) (fun c1 => ?_) (fun c1 => ?_)
      · have h := vz_t c1 h
        cases h
        exact hk ls rfl (lv_sub hl [3] rfl)
      · have h := vz_f c1 h
        refine lv_aload_n hx hb dX11_goesTo_36 rfl (lv_at hl 0 rfl) ?_
        refine lv_iload hx hb dX11_goesTo_37 (lv_at hl 4 rfl) ?_
        refine lv_iload_n hx hb dX11_goesTo_39 rfl (lv_at hl 1 rfl) ?_
        obtain ⟨r3, hc2, h⟩ := vz_b h
        refine za_callR (va_runV (As := [.int x4, .int x1]) (rest := []) ⟨hx, hb, hml, hown, hts⟩ (k_X11_fitsOf l (D := D) (cI := cI) (cJ := cJ) (ad := ad) hc2) (cwV 2 hts gX11_goesTo_X11_fitsOf rfl rfl rfl ⟨rfl, zd_X11_fitsOf⟩ ⟨Nat.le_of_ble_eq_true rfl, Nat.le_of_ble_eq_true rfl⟩) (xPreV (ci := 11) hK hP rfl zO_64) rfl rfl hl.1 rfl (lv_room (Nat.le_of_ble_eq_true rfl)) dX11_goesTo_40 ⟨Nat.zero_le _, Nat.zero_le _⟩) ?_
        refine lv_if_eq (tgt := 76) hx hb dX11_goesTo_43 (by decide) (fun c4 => ?_) (fun c4 => ?_)
        · have h := vz_t c4 h
          refine lv_iinc (v := (x4 + 1)) (lv' := [(4, .int (x4 + 1)), (0, .ref (ad 64)), (1, .int x1), (2, .int x2), (3, .int x3)]) hx hb dX11_goesTo_76 hl (k := 4) rfl rfl (by decide) rfl (fun ls hl => ?_)
          refine lv_goto (tgt := 25) hx hb dX11_goesTo_79 (by decide) ?_
          exact ih (x4 + 1) ls o h (lv_sub hl [1, 2, 3, 4, 0] rfl) hret hk
        · have h := vz_f c4 h
          refine lv_aload_n hx hb dX11_goesTo_46 rfl (lv_at hl 0 rfl) ?_
          refine lv_iload hx hb dX11_goesTo_47 (lv_at hl 4 rfl) ?_
          refine lv_iconst (v := (0 : Int32)) hx hb dX11_goesTo_49 (by decide) ?_
          obtain ⟨r6, hc5, h⟩ := vz_b h
          refine za_callR (va_runV (As := [.int x4, .int (0 : Int32)]) (rest := []) ⟨hx, hb, hml, hown, hts⟩ (k_X11_ruleAt l (D := D) (cI := cI) (cJ := cJ) (ad := ad) hc5) (cwV 2 hts gX11_goesTo_X11_ruleAt rfl rfl rfl ⟨rfl, zd_X11_ruleAt⟩ ⟨Nat.le_of_ble_eq_true rfl, Nat.le_of_ble_eq_true rfl⟩) (xPreV (ci := 11) hK hP rfl zO_64) rfl rfl hl.1 rfl (lv_room (Nat.le_of_ble_eq_true rfl)) dX11_goesTo_50 ⟨Nat.zero_le _, Nat.zero_le _⟩) ?_
          refine lv_aload_n hx hb dX11_goesTo_53 rfl (lv_at hl 0 rfl) ?_
          refine lv_iload_n hx hb dX11_goesTo_54 rfl (lv_at hl 2 rfl) ?_
          refine lv_iconst (v := (0 : Int32)) hx hb dX11_goesTo_55 (by decide) ?_
          obtain ⟨r8, hc7, h⟩ := vz_b h
          refine za_callR (va_runV (As := [.int x2, .int (0 : Int32)]) (rest := [.int r6]) ⟨hx, hb, hml, hown, hts⟩ (k_X11_ruleAt l (D := D) (cI := cI) (cJ := cJ) (ad := ad) hc7) (cwV 2 hts gX11_goesTo_X11_ruleAt rfl rfl rfl ⟨rfl, zd_X11_ruleAt⟩ ⟨Nat.le_of_ble_eq_true rfl, Nat.le_of_ble_eq_true rfl⟩) (xPreV (ci := 11) hK hP rfl zO_64) rfl rfl hl.1 rfl (lv_room (Nat.le_of_ble_eq_true rfl)) dX11_goesTo_56 ⟨Nat.zero_le _, Nat.zero_le _⟩) ?_
          refine lv_icmp_ne (tgt := 76) hx hb dX11_goesTo_59 (by decide) (fun c9 => ?_) (fun c9 => ?_)
          · have h := vz_f c9 h
            refine lv_iinc (v := (x4 + 1)) (lv' := [(4, .int (x4 + 1)), (0, .ref (ad 64)), (1, .int x1), (2, .int x2), (3, .int x3)]) hx hb dX11_goesTo_76 hl (k := 4) rfl rfl (by decide) rfl (fun ls hl => ?_)
            refine lv_goto (tgt := 25) hx hb dX11_goesTo_79 (by decide) ?_
            exact ih (x4 + 1) ls o h (lv_sub hl [1, 2, 3, 4, 0] rfl) hret hk
          · have h := vz_t c9 h
            refine lv_aload_n hx hb dX11_goesTo_62 rfl (lv_at hl 0 rfl) ?_
            refine lv_iload hx hb dX11_goesTo_63 (lv_at hl 4 rfl) ?_
            refine lv_iconst (v := (1 : Int32)) hx hb dX11_goesTo_65 (by decide) ?_
            obtain ⟨r11, hc10, h⟩ := vz_b h
            refine za_callR (va_runV (As := [.int x4, .int (1 : Int32)]) (rest := []) ⟨hx, hb, hml, hown, hts⟩ (k_X11_ruleAt l (D := D) (cI := cI) (cJ := cJ) (ad := ad) hc10) (cwV 2 hts gX11_goesTo_X11_ruleAt rfl rfl rfl ⟨rfl, zd_X11_ruleAt⟩ ⟨Nat.le_of_ble_eq_true rfl, Nat.le_of_ble_eq_true rfl⟩) (xPreV (ci := 11) hK hP rfl zO_64) rfl rfl hl.1 rfl (lv_room (Nat.le_of_ble_eq_true rfl)) dX11_goesTo_66 ⟨Nat.zero_le _, Nat.zero_le _⟩) ?_
            refine lv_iload_n hx hb dX11_goesTo_69 rfl (lv_at hl 3 rfl) ?_
            refine lv_icmp_eq (tgt := 76) hx hb dX11_goesTo_70 (by decide) (fun c12 => ?_) (fun c12 => ?_)
            · have h := vz_t c12 h
              refine lv_iinc (v := (x4 + 1)) (lv' := [(4, .int (x4 + 1)), (0, .ref (ad 64)), (1, .int x1), (2, .int x2), (3, .int x3)]) hx hb dX11_goesTo_76 hl (k := 4) rfl rfl (by decide) rfl (fun ls hl => ?_)
              refine lv_goto (tgt := 25) hx hb dX11_goesTo_79 (by decide) ?_
              exact ih (x4 + 1) ls o h (lv_sub hl [1, 2, 3, 4, 0] rfl) hret hk
            · have h := vz_f c12 h
              refine lv_bipush (v := (-5 : Int32)) hx hb dX11_goesTo_73 (by decide) ?_
              cases h
              have e9 := hret _ rfl
              cases e9
              exact W.iret hx hb hr (fun t ht _ => ⟨rfl, ht⟩) (fun q hq => absurd hq List.not_mem_nil) dX11_goesTo_75
  rw [pX11_goesTo] at h
  refine lv_aload_n hx hb dX11_goesTo_0 rfl (lv_at hl 0 rfl) ?_
  refine lv_iload_n hx hb dX11_goesTo_1 rfl (lv_at hl 1 rfl) ?_
  obtain ⟨r14, hc13, h⟩ := vz_b h
  refine za_callR (va_runV (As := [.int a1]) (rest := []) ⟨hx, hb, hml, hown, hts⟩ (k_X11_firstRule l (D := D) (cI := cI) (cJ := cJ) (ad := ad) hc13) (cwV 1 hts gX11_goesTo_X11_firstRule rfl rfl rfl ⟨rfl, zd_X11_firstRule⟩ ⟨Nat.le_of_ble_eq_true rfl, Nat.le_of_ble_eq_true rfl⟩) (xPreV (ci := 11) hK hP rfl zO_64) rfl rfl hl.1 rfl (lv_room (Nat.le_of_ble_eq_true rfl)) dX11_goesTo_2 ⟨Nat.zero_le _, Nat.zero_le _⟩) ?_
  refine lv_istore_n (lv' := [(2, .int r14), (0, .ref (ad 64)), (1, .int a1)]) hx hb dX11_goesTo_5 rfl hl (by decide) rfl (fun ls hl => ?_)
  refine lv_iload_n hx hb dX11_goesTo_6 rfl (lv_at hl 0 rfl) ?_
  refine lv_if_ge (tgt := 13) hx hb dX11_goesTo_7 (by decide) (fun c15 => ?_) (fun c15 => ?_)
  · have h := vz_t c15 h
    refine lv_aload_n hx hb dX11_goesTo_13 rfl (lv_at hl 1 rfl) ?_
    refine lv_iload_n hx hb dX11_goesTo_14 rfl (lv_at hl 0 rfl) ?_
    refine lv_iconst (v := (1 : Int32)) hx hb dX11_goesTo_15 (by decide) ?_
    obtain ⟨r17, hc16, h⟩ := vz_b h
    refine za_callR (va_runV (As := [.int r14, .int (1 : Int32)]) (rest := []) ⟨hx, hb, hml, hown, hts⟩ (k_X11_ruleAt l (D := D) (cI := cI) (cJ := cJ) (ad := ad) hc16) (cwV 2 hts gX11_goesTo_X11_ruleAt rfl rfl rfl ⟨rfl, zd_X11_ruleAt⟩ ⟨Nat.le_of_ble_eq_true rfl, Nat.le_of_ble_eq_true rfl⟩) (xPreV (ci := 11) hK hP rfl zO_64) rfl rfl hl.1 rfl (lv_room (Nat.le_of_ble_eq_true rfl)) dX11_goesTo_16 ⟨Nat.zero_le _, Nat.zero_le _⟩) ?_
    refine lv_istore_n (lv' := [(3, .int r17), (2, .int r14), (0, .ref (ad 64)), (1, .int a1)]) hx hb dX11_goesTo_19 rfl hl (by decide) rfl (fun ls hl => ?_)
    refine lv_iload_n hx hb dX11_goesTo_20 rfl (lv_at hl 1 rfl) ?_
    refine lv_iconst (v := (1 : Int32)) hx hb dX11_goesTo_21 (by decide) ?_
    refine lv_iadd hx hb dX11_goesTo_22 ?_
    refine lv_istore (lv' := [(4, .int (r14 + (1 : Int32))), (3, .int r17), (2, .int r14), (0, .ref (ad 64)), (1, .int a1)]) hx hb dX11_goesTo_23 hl (by decide) rfl (fun ls hl => ?_)
    obtain ⟨o18, hL19, h⟩ := vz_b h
    refine L25 a1 r14 r17 fuel (r14 + (1 : Int32)) ls o18 hL19 (lv_sub hl [3, 4, 2, 1, 0] rfl) (fun rr e20 => by rw [e20] at h; exact Option.some.inj h) (fun ls e20 hl => ?_)
    try rw [e20] at h
    try dsimp only at h
    refine lv_iload_n hx hb dX11_goesTo_82 rfl (lv_at hl 0 rfl) ?_
    cases h
    exact W.iret hx hb hr (fun t ht _ => ⟨rfl, ht⟩) (fun q hq => absurd hq List.not_mem_nil) dX11_goesTo_83
  · have h := vz_f c15 h
    refine lv_bipush (v := (-6 : Int32)) hx hb dX11_goesTo_10 (by decide) ?_
    cases h
    exact W.iret hx hb hr (fun t ht _ => ⟨rfl, ht⟩) (fun q hq => absurd hq List.not_mem_nil) dX11_goesTo_12
abbrev rmX11_isFresh : Room := { frames := 4, cells := 0, slots := 0, locals := 98 }
set_option maxHeartbeats 4000000 in
set_option maxRecDepth 100000 in
theorem k_X11_isFresh (l : Launch) {D : va_G} {cI cJ : ClassId} {ad : Nat → Nat} {u : tU} {v : tV} {a1 : Int32}  {r : Int32}  (h : pX11_isFresh u v a1 = some r) : Met l yX11_isFresh wsX11_isFresh rmX11_isFresh (va_Pc [.ref (ad 64), .int a1] (xPre D cI cJ (wA cI cJ ad u v))) (QcRead r) 0 0 (fun _ => False) := by
  refine Met.ofW (cc := cX11_isFresh) (maxL := 3) (ret := (some .boolean)) (by decide) rfl ?_
  intro p e s m args below meth c s₁ B hml hv
  obtain ⟨rfl, hP, hK⟩ := hv
  have hx := B.exec
  have hb := B.bytes
  have hr := B.returns
  have hts := atoms_spec (ws := wsX11_isFresh) B.pre
  have hown : s.vm.findClass RX11 = some m.cls := findClass_of_methodNamed B.named
  have hlocks := B.notSynchronized
  have hin11 : ∀ w ∈ u_ws RX11 TX11 10, w ∈ wsX11_isFresh := fun _ h => List.mem_cons_of_mem _ (List.mem_append_right _ h)
  have hw1 := hts (.fieldLink RX11 13 "InstallDeskModel" "book" "[I") (List.mem_of_getElem? (i := 1) rfl)
  have hl := lv_entry ([.ref (ad 64), .int a1]) (n := 3) (Nat.le_of_ble_eq_true rfl)
  rw [lg_entry_eq]
  generalize (lg_sl ([.ref (ad 64), .int a1]) ++ List.replicate (3 - (lg_sl ([.ref (ad 64), .int a1])).length) Slot.unset).toArray = ls at hl ⊢
  have hl : lv_has ls 3 [(0, .ref (ad 64)), (1, .int a1)] := hl
  rw [pX11_isFresh] at h
  refine lv_aload_n hx hb dX11_isFresh_0 rfl (lv_at hl 0 rfl) ?_
  refine lv_iload_n hx hb dX11_isFresh_1 rfl (lv_at hl 1 rfl) ?_
  refine lv_iconst (v := (1 : Int32)) hx hb dX11_isFresh_2 (by decide) ?_
  obtain ⟨r2, hc1, h⟩ := vz_b h
  refine za_callR (va_runV (As := [.int a1, .int (1 : Int32)]) (rest := []) ⟨hx, hb, hml, hown, hts⟩ (k_X11_findAt l (D := D) (cI := cI) (cJ := cJ) (ad := ad) hc1) (cwV 2 hts gX11_isFresh_X11_findAt rfl rfl rfl ⟨rfl, zd_X11_findAt⟩ ⟨Nat.le_of_ble_eq_true rfl, Nat.le_of_ble_eq_true rfl⟩) (xPreV (ci := 11) hK hP rfl zO_64) rfl rfl hl.1 rfl (lv_room (Nat.le_of_ble_eq_true rfl)) dX11_isFresh_3 ⟨Nat.zero_le _, Nat.zero_le _⟩) ?_
  refine lv_istore_n (lv' := [(2, .int r2), (0, .ref (ad 64)), (1, .int a1)]) hx hb dX11_isFresh_6 rfl hl (by decide) rfl (fun ls hl => ?_)
  refine lv_aload_n hx hb dX11_isFresh_7 rfl (lv_at hl 1 rfl) ?_
  refine lv_iload_n hx hb dX11_isFresh_8 rfl (lv_at hl 2 rfl) ?_
  obtain ⟨r4, hc3, h⟩ := vz_b h
  refine za_callR (va_runV (As := [.int a1]) (rest := []) ⟨hx, hb, hml, hown, hts⟩ (k_X11_goesTo l (D := D) (cI := cI) (cJ := cJ) (ad := ad) hc3) (cwV 1 hts gX11_isFresh_X11_goesTo rfl rfl rfl ⟨rfl, zd_X11_goesTo⟩ ⟨Nat.le_of_ble_eq_true rfl, Nat.le_of_ble_eq_true rfl⟩) (xPreV (ci := 11) hK hP rfl zO_64) rfl rfl hl.1 rfl (lv_room (Nat.le_of_ble_eq_true rfl)) dX11_isFresh_9 ⟨Nat.zero_le _, Nat.zero_le _⟩) ?_
  refine lv_if_lt (tgt := 49) hx hb dX11_isFresh_12 (by decide) (fun c5 => ?_) (fun c5 => ?_)
  · have h := vz_t c5 h
    refine lv_iconst (v := (0 : Int32)) hx hb dX11_isFresh_49 (by decide) ?_
    cases h
    exact W.zret hx hb hr nb0 (fun t ht _ => ⟨rfl, ht⟩) (fun q hq => absurd hq List.not_mem_nil) dX11_isFresh_50
  · have h := vz_f c5 h
    refine lv_iload_n hx hb dX11_isFresh_15 rfl (lv_at hl 0 rfl) ?_
    refine lv_aload_n hx hb dX11_isFresh_16 rfl (lv_at hl 1 rfl) ?_
    refine za_getr (k := 2) hx hb hts hin11 hown hK hP zF_64_2 rfl (Nat.le_of_ble_eq_true rfl) (Or.inl hw1) dX11_isFresh_17 ?_
    refine lv_bipush (v := (6 : Int32)) hx hb dX11_isFresh_20 (by decide) ?_
    refine za_ildc (j := 6) hx hb hK hP zI_66 (by unfold vp_in; decide) rfl dX11_isFresh_22 ?_
    refine lv_icmp_gt (tgt := 49) hx hb dX11_isFresh_23 (by decide) (fun c6 => ?_) (fun c6 => ?_)
    · have h := vz_t c6 h
      refine lv_iconst (v := (0 : Int32)) hx hb dX11_isFresh_49 (by decide) ?_
      cases h
      exact W.zret hx hb hr nb0 (fun t ht _ => ⟨rfl, ht⟩) (fun q hq => absurd hq List.not_mem_nil) dX11_isFresh_50
    · have h := vz_f c6 h
      refine lv_iload_n hx hb dX11_isFresh_26 rfl (lv_at hl 0 rfl) ?_
      refine lv_aload_n hx hb dX11_isFresh_27 rfl (lv_at hl 1 rfl) ?_
      refine za_getr (k := 2) hx hb hts hin11 hown hK hP zF_64_2 rfl (Nat.le_of_ble_eq_true rfl) (Or.inl hw1) dX11_isFresh_28 ?_
      refine lv_bipush (v := (6 : Int32)) hx hb dX11_isFresh_31 (by decide) ?_
      refine za_ildc (j := 6) hx hb hK hP zI_66 (by unfold vp_in; decide) rfl dX11_isFresh_33 ?_
      refine lv_aload_n hx hb dX11_isFresh_34 rfl (lv_at hl 1 rfl) ?_
      refine za_getr (k := 2) hx hb hts hin11 hown hK hP zF_64_2 rfl (Nat.le_of_ble_eq_true rfl) (Or.inl hw1) dX11_isFresh_35 ?_
      refine lv_bipush (v := (7 : Int32)) hx hb dX11_isFresh_38 (by decide) ?_
      refine za_ildc (j := 7) hx hb hK hP zI_66 (by unfold vp_in; decide) rfl dX11_isFresh_40 ?_
      refine lv_isub hx hb dX11_isFresh_41 ?_
      refine lv_icmp_lt (tgt := 49) hx hb dX11_isFresh_42 (by decide) (fun c7 => ?_) (fun c7 => ?_)
      · have h := vz_t c7 h
        refine lv_iconst (v := (0 : Int32)) hx hb dX11_isFresh_49 (by decide) ?_
        cases h
        exact W.zret hx hb hr nb0 (fun t ht _ => ⟨rfl, ht⟩) (fun q hq => absurd hq List.not_mem_nil) dX11_isFresh_50
      · have h := vz_f c7 h
        refine lv_iconst (v := (1 : Int32)) hx hb dX11_isFresh_45 (by decide) ?_
        refine lv_goto (tgt := 50) hx hb dX11_isFresh_46 (by decide) ?_
        cases h
        exact W.zret hx hb hr nb1 (fun t ht _ => ⟨rfl, ht⟩) (fun q hq => absurd hq List.not_mem_nil) dX11_isFresh_50
abbrev rmX11_tellHad : Room := { frames := 5, cells := 0, slots := 0, locals := 120 }
set_option maxHeartbeats 4000000 in
set_option maxRecDepth 100000 in
theorem k_X11_tellHad (l : Launch) {D : va_G} {cI cJ : ClassId} {ad : Nat → Nat} {u : tU} {v : tV} {A : Nat → Prop} (hD : zD A cI cJ ad) {uz : tU} {vz : tV} (h : pX11_tellHad u v  = some (uz, vz)) : Met l yX11_tellHad wsX11_tellHad rmX11_tellHad (va_Pc [.ref (ad 64)] (xPre D cI cJ (wA cI cJ ad u v))) (xWv D cI cJ ad A uz vz) 0 0 A := by
  refine Met.ofW (cc := cX11_tellHad) (maxL := 3) (ret := none) (by decide) rfl ?_
  intro p e s m args below meth c s₁ B hml hv
  obtain ⟨rfl, hP, hK⟩ := hv
  have hx := B.exec
  have hb := B.bytes
  have hr := B.returns
  have hts := atoms_spec (ws := wsX11_tellHad) B.pre
  have hown : s.vm.findClass RX11 = some m.cls := findClass_of_methodNamed B.named
  have hlocks := B.notSynchronized
  have hS : va_S A s.heap s.heap [] := va_S.rf
  have hin11 : ∀ w ∈ u_ws RX11 TX11 10, w ∈ wsX11_tellHad := fun _ h => List.mem_cons_of_mem _ (List.mem_append_right _ h)
  have hw1 := hts (.fieldLink RX11 19 "InstallDeskModel" "had" "[I") (List.mem_of_getElem? (i := 1) rfl)
  have hw2 := hts (.fieldLink RX11 13 "InstallDeskModel" "book" "[I") (List.mem_of_getElem? (i := 2) rfl)
  have hl := lv_entry ([.ref (ad 64)]) (n := 3) (Nat.le_of_ble_eq_true rfl)
  rw [lg_entry_eq]
  generalize (lg_sl ([.ref (ad 64)]) ++ List.replicate (3 - (lg_sl ([.ref (ad 64)])).length) Slot.unset).toArray = ls at hl ⊢
  have hl : lv_has ls 3 [(0, .ref (ad 64))] := hl
  have L2 : ∀ (n : Nat) (x1 : Int32) (u : tU) (v : tV) (H : Heap) (locs : List Loc) (ls : Array Slot) (o : tU × tV), pX11_tellHad_L2 n x1 u v = some o → va_P D vwCl (wA cI cJ ad u v) H → va_S A s.heap H locs → lv_has ls 3 [(0, .ref (ad 64)), (1, .int x1)] → (∀ (u' : tU) (v' : tV) (H : Heap) (locs : List Loc) (ls : Array Slot), o = (u', v') → va_P D vwCl (wA cI cJ ad u' v') H → va_S A s.heap H locs → lv_has ls 3 [(0, .ref (ad 64))] → W p l e (headSpec wsX11_tellHad rmX11_tellHad).room s m [Value.ref (ad 64)].toArray below meth c H locs 0 0 (MQ below (xWv D cI cJ ad A uz vz) [Value.ref (ad 64)].toArray s 0 0 A) (F0 m 21 ls [])) → W p l e (headSpec wsX11_tellHad rmX11_tellHad).room s m [Value.ref (ad 64)].toArray below meth c H locs 0 0 (MQ below (xWv D cI cJ ad A uz vz) [Value.ref (ad 64)].toArray s 0 0 A) (F0 m 2 ls []) := by
    intro n
    induction n with
    | zero => intro x1 u v H locs ls o h; cases h
    | succ n ih =>
      intro x1 u v H locs ls o h hP hS hl hk
      rw [pX11_tellHad_L2] at h
      refine lv_iload_n hx hb dX11_tellHad_2 rfl (lv_at hl 1 rfl) ?_
      refine lv_bipush (v := (80 : Int32)) hx hb dX11_tellHad_3 (by decide) ?_
      refine lv_icmp_ge (tgt := 21) hx hb dX11_tellHad_5 (by decide) (fun c1 => ?_) (fun c1 => ?_)
      · have h := vz_t c1 h
        cases h
        exact hk u v _ _ ls rfl hP hS (lv_sub hl [0] rfl)
      · have h := vz_f c1 h
        refine lv_aload_n hx hb dX11_tellHad_8 rfl (lv_at hl 0 rfl) ?_
        refine za_getr (k := 6) hx hb hts hin11 hown hK hP zF_64_6 rfl (Nat.le_of_ble_eq_true rfl) (Or.inl hw1) dX11_tellHad_9 ?_
        refine lv_iload_n hx hb dX11_tellHad_12 rfl (lv_at hl 1 rfl) ?_
        refine lv_iconst (v := (0 : Int32)) hx hb dX11_tellHad_13 (by decide) ?_
        obtain ⟨g2, h⟩ := gd_s h
        refine za_ist hx hb hK hP hD hS zI_68 g2 dX11_tellHad_14 (fun H locs hP hS => ?_)
        refine lv_iinc (v := (x1 + 1)) (lv' := [(1, .int (x1 + 1)), (0, .ref (ad 64))]) hx hb dX11_tellHad_15 hl (k := 1) rfl rfl (by decide) rfl (fun ls hl => ?_)
        refine lv_goto (tgt := 2) hx hb dX11_tellHad_18 (by decide) ?_
        exact ih (x1 + 1) (sU u 6 x1.toNatClampNeg (0 : Int32)) v _ _ ls o h hP hS (lv_sub hl [1, 0] rfl) hk
  have L113 : ∀ (x1 : Int32) (n : Nat) (x2 : Int32) (u : tU) (v : tV) (H : Heap) (locs : List Loc) (ls : Array Slot) (o : tU × tV), pX11_tellHad_L113 x1 n x2 u v = some o → va_P D vwCl (wA cI cJ ad u v) H → va_S A s.heap H locs → lv_has ls 3 [(0, .ref (ad 64)), (1, .int x1), (2, .int x2)] → (∀ (u' : tU) (v' : tV) (H : Heap) (locs : List Loc) (ls : Array Slot), o = (u', v') → va_P D vwCl (wA cI cJ ad u' v') H → va_S A s.heap H locs → lv_has ls 3 [(0, .ref (ad 64)), (1, .int x1)] → W p l e (headSpec wsX11_tellHad rmX11_tellHad).room s m [Value.ref (ad 64)].toArray below meth c H locs 0 0 (MQ below (xWv D cI cJ ad A uz vz) [Value.ref (ad 64)].toArray s 0 0 A) (F0 m 155 ls [])) → W p l e (headSpec wsX11_tellHad rmX11_tellHad).room s m [Value.ref (ad 64)].toArray below meth c H locs 0 0 (MQ below (xWv D cI cJ ad A uz vz) [Value.ref (ad 64)].toArray s 0 0 A) (F0 m 113 ls []) := by
    intro x1 n
    induction n with
    | zero => intro x2 u v H locs ls o h; cases h
    | succ n ih =>
      intro x2 u v H locs ls o h hP hS hl hk
      rw [pX11_tellHad_L113] at h
      refine lv_iload_n hx hb dX11_tellHad_113 rfl (lv_at hl 2 rfl) ?_
      refine lv_aload_n hx hb dX11_tellHad_114 rfl (lv_at hl 0 rfl) ?_
      refine za_getr (k := 2) hx hb hts hin11 hown hK hP zF_64_2 rfl (Nat.le_of_ble_eq_true rfl) (Or.inl hw2) dX11_tellHad_115 ?_
      refine lv_iconst (v := (0 : Int32)) hx hb dX11_tellHad_118 (by decide) ?_
      refine za_ildc (j := 0) hx hb hK hP zI_66 (by unfold vp_in; decide) rfl dX11_tellHad_119 ?_
      refine lv_icmp_ge (tgt := 155) hx hb dX11_tellHad_120 (by decide) (fun c3 => ?_) (fun c3 => ?_)
      · have h := vz_t c3 h
        cases h
        exact hk u v _ _ ls rfl hP hS (lv_sub hl [0, 1] rfl)
      · have h := vz_f c3 h
        refine lv_aload_n hx hb dX11_tellHad_123 rfl (lv_at hl 0 rfl) ?_
        refine lv_iload_n hx hb dX11_tellHad_124 rfl (lv_at hl 2 rfl) ?_
        refine lv_iconst (v := (0 : Int32)) hx hb dX11_tellHad_125 (by decide) ?_
        obtain ⟨r5, hc4, h⟩ := vz_b h
        refine za_callR (va_runV (As := [.int x2, .int (0 : Int32)]) (rest := []) ⟨hx, hb, hml, hown, hts⟩ (k_X11_productAt l (D := D) (cI := cI) (cJ := cJ) (ad := ad) hc4) (cwV 2 hts gX11_tellHad_X11_productAt rfl rfl rfl ⟨rfl, zd_X11_productAt⟩ ⟨Nat.le_of_ble_eq_true rfl, Nat.le_of_ble_eq_true rfl⟩) (xPreV (ci := 11) hK hP rfl zO_64) rfl rfl hl.1 rfl (lv_room (Nat.le_of_ble_eq_true rfl)) dX11_tellHad_126 ⟨Nat.zero_le _, Nat.zero_le _⟩) ?_
        refine lv_iconst (v := (1 : Int32)) hx hb dX11_tellHad_129 (by decide) ?_
        refine lv_icmp_eq (tgt := 143) hx hb dX11_tellHad_130 (by decide) (fun c6 => ?_) (fun c6 => ?_)
        · have h := vz_t c6 h
          refine lv_aload_n hx hb dX11_tellHad_143 rfl (lv_at hl 0 rfl) ?_
          refine lv_iload_n hx hb dX11_tellHad_144 rfl (lv_at hl 1 rfl) ?_
          refine lv_iload_n hx hb dX11_tellHad_145 rfl (lv_at hl 2 rfl) ?_
          obtain ⟨⟨u8, v9⟩, hc7, h⟩ := vz_b h
          try dsimp only at h
          refine za_callWv (va_runV (As := [.int x1, .int x2]) (rest := []) ⟨hx, hb, hml, hown, hts⟩ (k_X11_makeSuite l (D := D) (cI := cI) (cJ := cJ) (ad := ad) hD hc7) (cwV 2 hts gX11_tellHad_X11_makeSuite rfl rfl rfl ⟨rfl, zd_X11_makeSuite⟩ ⟨Nat.le_of_ble_eq_true rfl, Nat.le_of_ble_eq_true rfl⟩) (xPreV (ci := 11) hK hP rfl zO_64) rfl rfl hl.1 rfl (lv_room (Nat.le_of_ble_eq_true rfl)) dX11_tellHad_146 ⟨Nat.zero_le _, Nat.zero_le _⟩) hS (fun H locs hP hS => ?_)
          refine lv_iinc (v := (x2 + 1)) (lv' := [(2, .int (x2 + 1)), (0, .ref (ad 64)), (1, .int x1)]) hx hb dX11_tellHad_149 hl (k := 2) rfl rfl (by decide) rfl (fun ls hl => ?_)
          refine lv_goto (tgt := 113) hx hb dX11_tellHad_152 (by decide) ?_
          exact ih (x2 + 1) u8 v9 _ _ ls o h hP hS (lv_sub hl [1, 2, 0] rfl) hk
        · have h := vz_f c6 h
          refine lv_aload_n hx hb dX11_tellHad_133 rfl (lv_at hl 0 rfl) ?_
          refine lv_iload_n hx hb dX11_tellHad_134 rfl (lv_at hl 2 rfl) ?_
          refine lv_iconst (v := (0 : Int32)) hx hb dX11_tellHad_135 (by decide) ?_
          obtain ⟨r12, hc11, h⟩ := vz_b h
          refine za_callR (va_runV (As := [.int x2, .int (0 : Int32)]) (rest := []) ⟨hx, hb, hml, hown, hts⟩ (k_X11_productAt l (D := D) (cI := cI) (cJ := cJ) (ad := ad) hc11) (cwV 2 hts gX11_tellHad_X11_productAt rfl rfl rfl ⟨rfl, zd_X11_productAt⟩ ⟨Nat.le_of_ble_eq_true rfl, Nat.le_of_ble_eq_true rfl⟩) (xPreV (ci := 11) hK hP rfl zO_64) rfl rfl hl.1 rfl (lv_room (Nat.le_of_ble_eq_true rfl)) dX11_tellHad_136 ⟨Nat.zero_le _, Nat.zero_le _⟩) ?_
          refine lv_iconst (v := (3 : Int32)) hx hb dX11_tellHad_139 (by decide) ?_
          refine lv_icmp_ne (tgt := 149) hx hb dX11_tellHad_140 (by decide) (fun c13 => ?_) (fun c13 => ?_)
          · have h := vz_f c13 h
            refine lv_iinc (v := (x2 + 1)) (lv' := [(2, .int (x2 + 1)), (0, .ref (ad 64)), (1, .int x1)]) hx hb dX11_tellHad_149 hl (k := 2) rfl rfl (by decide) rfl (fun ls hl => ?_)
            refine lv_goto (tgt := 113) hx hb dX11_tellHad_152 (by decide) ?_
            exact ih (x2 + 1) u v _ _ ls o h hP hS (lv_sub hl [1, 2, 0] rfl) hk
          · have h := vz_t c13 h
            refine lv_aload_n hx hb dX11_tellHad_143 rfl (lv_at hl 0 rfl) ?_
            refine lv_iload_n hx hb dX11_tellHad_144 rfl (lv_at hl 1 rfl) ?_
            refine lv_iload_n hx hb dX11_tellHad_145 rfl (lv_at hl 2 rfl) ?_
            obtain ⟨⟨u15, v16⟩, hc14, h⟩ := vz_b h
            try dsimp only at h
            refine za_callWv (va_runV (As := [.int x1, .int x2]) (rest := []) ⟨hx, hb, hml, hown, hts⟩ (k_X11_makeSuite l (D := D) (cI := cI) (cJ := cJ) (ad := ad) hD hc14) (cwV 2 hts gX11_tellHad_X11_makeSuite rfl rfl rfl ⟨rfl, zd_X11_makeSuite⟩ ⟨Nat.le_of_ble_eq_true rfl, Nat.le_of_ble_eq_true rfl⟩) (xPreV (ci := 11) hK hP rfl zO_64) rfl rfl hl.1 rfl (lv_room (Nat.le_of_ble_eq_true rfl)) dX11_tellHad_146 ⟨Nat.zero_le _, Nat.zero_le _⟩) hS (fun H locs hP hS => ?_)
            refine lv_iinc (v := (x2 + 1)) (lv' := [(2, .int (x2 + 1)), (0, .ref (ad 64)), (1, .int x1)]) hx hb dX11_tellHad_149 hl (k := 2) rfl rfl (by decide) rfl (fun ls hl => ?_)
            refine lv_goto (tgt := 113) hx hb dX11_tellHad_152 (by decide) ?_
            exact ih (x2 + 1) u15 v16 _ _ ls o h hP hS (lv_sub hl [1, 2, 0] rfl) hk
  have L101 : ∀ (n : Nat) (x1 : Int32) (u : tU) (v : tV) (H : Heap) (locs : List Loc) (ls : Array Slot) (o : tU × tV), pX11_tellHad_L101 n x1 u v = some o → va_P D vwCl (wA cI cJ ad u v) H → va_S A s.heap H locs → lv_has ls 3 [(0, .ref (ad 64)), (1, .int x1)] → (∀ (u' : tU) (v' : tV) (H : Heap) (locs : List Loc) (ls : Array Slot), o = (u', v') → va_P D vwCl (wA cI cJ ad u' v') H → va_S A s.heap H locs → lv_has ls 3 [] → W p l e (headSpec wsX11_tellHad rmX11_tellHad).room s m [Value.ref (ad 64)].toArray below meth c H locs 0 0 (MQ below (xWv D cI cJ ad A uz vz) [Value.ref (ad 64)].toArray s 0 0 A) (F0 m 161 ls [])) → W p l e (headSpec wsX11_tellHad rmX11_tellHad).room s m [Value.ref (ad 64)].toArray below meth c H locs 0 0 (MQ below (xWv D cI cJ ad A uz vz) [Value.ref (ad 64)].toArray s 0 0 A) (F0 m 101 ls []) := by
    intro n
    induction n with
    | zero => intro x1 u v H locs ls o h; cases h
    | succ n ih =>
      intro x1 u v H locs ls o h hP hS hl hk
      rw [pX11_tellHad_L101] at h
      refine lv_iload_n hx hb dX11_tellHad_101 rfl (lv_at hl 1 rfl) ?_
      refine lv_aload_n hx hb dX11_tellHad_102 rfl (lv_at hl 0 rfl) ?_
      refine za_getr (k := 2) hx hb hts hin11 hown hK hP zF_64_2 rfl (Nat.le_of_ble_eq_true rfl) (Or.inl hw2) dX11_tellHad_103 ?_
      refine lv_iconst (v := (2 : Int32)) hx hb dX11_tellHad_106 (by decide) ?_
      refine za_ildc (j := 2) hx hb hK hP zI_66 (by unfold vp_in; decide) rfl dX11_tellHad_107 ?_
      refine lv_icmp_ge (tgt := 161) hx hb dX11_tellHad_108 (by decide) (fun c18 => ?_) (fun c18 => ?_)
      · have h := vz_t c18 h
        cases h
        exact hk u v _ _ ls rfl hP hS (lv_sub hl [] rfl)
      · have h := vz_f c18 h
        refine lv_iconst (v := (0 : Int32)) hx hb dX11_tellHad_111 (by decide) ?_
        refine lv_istore_n (lv' := [(2, .int (0 : Int32)), (0, .ref (ad 64)), (1, .int x1)]) hx hb dX11_tellHad_112 rfl hl (by decide) rfl (fun ls hl => ?_)
        obtain ⟨o19, hL20, h⟩ := vz_b h
        refine L113 x1 fuel (0 : Int32) u v _ _ ls o19 hL20 hP hS (lv_sub hl [1, 2, 0] rfl) (fun u22 v23 H locs ls e21 hP hS hl => ?_)
        try rw [e21] at h
        try dsimp only at h
        refine lv_iinc (v := (x1 + 1)) (lv' := [(1, .int (x1 + 1)), (0, .ref (ad 64))]) hx hb dX11_tellHad_155 hl (k := 1) rfl rfl (by decide) rfl (fun ls hl => ?_)
        refine lv_goto (tgt := 101) hx hb dX11_tellHad_158 (by decide) ?_
        exact ih (x1 + 1) u22 v23 _ _ ls o h hP hS (lv_sub hl [1, 0] rfl) hk
  have L23 : ∀ (n : Nat) (x1 : Int32) (u : tU) (v : tV) (H : Heap) (locs : List Loc) (ls : Array Slot) (o : tU × tV), pX11_tellHad_L23 n x1 u v = some o → va_P D vwCl (wA cI cJ ad u v) H → va_S A s.heap H locs → lv_has ls 3 [(0, .ref (ad 64)), (1, .int x1)] → (∀ (u' : tU) (v' : tV) (H : Heap) (locs : List Loc) (ls : Array Slot), o = (u', v') → va_P D vwCl (wA cI cJ ad u' v') H → va_S A s.heap H locs → lv_has ls 3 [(0, .ref (ad 64))] → W p l e (headSpec wsX11_tellHad rmX11_tellHad).room s m [Value.ref (ad 64)].toArray below meth c H locs 0 0 (MQ below (xWv D cI cJ ad A uz vz) [Value.ref (ad 64)].toArray s 0 0 A) (F0 m 99 ls [])) → W p l e (headSpec wsX11_tellHad rmX11_tellHad).room s m [Value.ref (ad 64)].toArray below meth c H locs 0 0 (MQ below (xWv D cI cJ ad A uz vz) [Value.ref (ad 64)].toArray s 0 0 A) (F0 m 23 ls []) := by
    intro n
    induction n with
    | zero => intro x1 u v H locs ls o h; cases h
    | succ n ih =>
      intro x1 u v H locs ls o h hP hS hl hk
      rw [pX11_tellHad_L23] at h
      refine lv_iload_n hx hb dX11_tellHad_23 rfl (lv_at hl 1 rfl) ?_
      refine lv_aload_n hx hb dX11_tellHad_24 rfl (lv_at hl 0 rfl) ?_
      refine za_getr (k := 2) hx hb hts hin11 hown hK hP zF_64_2 rfl (Nat.le_of_ble_eq_true rfl) (Or.inl hw2) dX11_tellHad_25 ?_
      refine lv_iconst (v := (3 : Int32)) hx hb dX11_tellHad_28 (by decide) ?_
      refine za_ildc (j := 3) hx hb hK hP zI_66 (by unfold vp_in; decide) rfl dX11_tellHad_29 ?_
      refine lv_icmp_ge (tgt := 99) hx hb dX11_tellHad_30 (by decide) (fun c24 => ?_) (fun c24 => ?_)
      · have h := vz_t c24 h
        cases h
        exact hk u v _ _ ls rfl hP hS (lv_sub hl [0] rfl)
      · have h := vz_f c24 h
        refine lv_aload_n hx hb dX11_tellHad_33 rfl (lv_at hl 0 rfl) ?_
        refine lv_iload_n hx hb dX11_tellHad_34 rfl (lv_at hl 1 rfl) ?_
        obtain ⟨r26, hc25, h⟩ := vz_b h
        refine za_callR (va_runV (As := [.int x1]) (rest := []) ⟨hx, hb, hml, hown, hts⟩ (k_X11_isFresh l (D := D) (cI := cI) (cJ := cJ) (ad := ad) hc25) (cwV 1 hts gX11_tellHad_X11_isFresh rfl rfl rfl ⟨rfl, zd_X11_isFresh⟩ ⟨Nat.le_of_ble_eq_true rfl, Nat.le_of_ble_eq_true rfl⟩) (xPreV (ci := 11) hK hP rfl zO_64) rfl rfl hl.1 rfl (lv_room (Nat.le_of_ble_eq_true rfl)) dX11_tellHad_35 ⟨Nat.zero_le _, Nat.zero_le _⟩) ?_
        refine lv_if_eq (tgt := 93) hx hb dX11_tellHad_38 (by decide) (fun c27 => ?_) (fun c27 => ?_)
        · have h := vz_t c27 h
          refine lv_iinc (v := (x1 + 1)) (lv' := [(1, .int (x1 + 1)), (0, .ref (ad 64))]) hx hb dX11_tellHad_93 hl (k := 1) rfl rfl (by decide) rfl (fun ls hl => ?_)
          refine lv_goto (tgt := 23) hx hb dX11_tellHad_96 (by decide) ?_
          exact ih (x1 + 1) u v _ _ ls o h hP hS (lv_sub hl [1, 0] rfl) hk
        · have h := vz_f c27 h
          refine lv_bipush (v := (10 : Int32)) hx hb dX11_tellHad_41 (by decide) ?_
          refine lv_aload_n hx hb dX11_tellHad_43 rfl (lv_at hl 0 rfl) ?_
          refine lv_iload_n hx hb dX11_tellHad_44 rfl (lv_at hl 1 rfl) ?_
          refine lv_iconst (v := (0 : Int32)) hx hb dX11_tellHad_45 (by decide) ?_
          obtain ⟨r29, hc28, h⟩ := vz_b h
          refine za_callR (va_runV (As := [.int x1, .int (0 : Int32)]) (rest := [.int (10 : Int32)]) ⟨hx, hb, hml, hown, hts⟩ (k_X11_findAt l (D := D) (cI := cI) (cJ := cJ) (ad := ad) hc28) (cwV 2 hts gX11_tellHad_X11_findAt rfl rfl rfl ⟨rfl, zd_X11_findAt⟩ ⟨Nat.le_of_ble_eq_true rfl, Nat.le_of_ble_eq_true rfl⟩) (xPreV (ci := 11) hK hP rfl zO_64) rfl rfl hl.1 rfl (lv_room (Nat.le_of_ble_eq_true rfl)) dX11_tellHad_46 ⟨Nat.zero_le _, Nat.zero_le _⟩) ?_
          refine lv_imul hx hb dX11_tellHad_49 ?_
          refine lv_aload_n hx hb dX11_tellHad_50 rfl (lv_at hl 0 rfl) ?_
          refine lv_iload_n hx hb dX11_tellHad_51 rfl (lv_at hl 1 rfl) ?_
          obtain ⟨r31, hc30, h⟩ := vz_b h
          refine za_callR (va_runV (As := [.int x1]) (rest := [.int ((10 : Int32) * r29)]) ⟨hx, hb, hml, hown, hts⟩ (k_X11_goesTo l (D := D) (cI := cI) (cJ := cJ) (ad := ad) hc30) (cwV 1 hts gX11_tellHad_X11_goesTo rfl rfl rfl ⟨rfl, zd_X11_goesTo⟩ ⟨Nat.le_of_ble_eq_true rfl, Nat.le_of_ble_eq_true rfl⟩) (xPreV (ci := 11) hK hP rfl zO_64) rfl rfl hl.1 rfl (lv_room (Nat.le_of_ble_eq_true rfl)) dX11_tellHad_52 ⟨Nat.zero_le _, Nat.zero_le _⟩) ?_
          refine lv_iadd hx hb dX11_tellHad_55 ?_
          refine lv_istore_n (lv' := [(2, .int (((10 : Int32) * r29) + r31)), (0, .ref (ad 64)), (1, .int x1)]) hx hb dX11_tellHad_56 rfl hl (by decide) rfl (fun ls hl => ?_)
          refine lv_aload_n hx hb dX11_tellHad_57 rfl (lv_at hl 1 rfl) ?_
          refine za_getr (k := 6) hx hb hts hin11 hown hK hP zF_64_6 rfl (Nat.le_of_ble_eq_true rfl) (Or.inl hw1) dX11_tellHad_58 ?_
          refine lv_iload_n hx hb dX11_tellHad_61 rfl (lv_at hl 0 rfl) ?_
          refine lv_aload_n hx hb dX11_tellHad_62 rfl (lv_at hl 1 rfl) ?_
          refine lv_iload_n hx hb dX11_tellHad_63 rfl (lv_at hl 2 rfl) ?_
          refine lv_iconst (v := (2 : Int32)) hx hb dX11_tellHad_64 (by decide) ?_
          obtain ⟨r33, hc32, h⟩ := vz_b h
          refine za_callR (va_runV (As := [.int x1, .int (2 : Int32)]) (rest := [.int (((10 : Int32) * r29) + r31), .ref (ad 68)]) ⟨hx, hb, hml, hown, hts⟩ (k_X11_findAt l (D := D) (cI := cI) (cJ := cJ) (ad := ad) hc32) (cwV 2 hts gX11_tellHad_X11_findAt rfl rfl rfl ⟨rfl, zd_X11_findAt⟩ ⟨Nat.le_of_ble_eq_true rfl, Nat.le_of_ble_eq_true rfl⟩) (xPreV (ci := 11) hK hP rfl zO_64) rfl rfl hl.1 rfl (lv_room (Nat.le_of_ble_eq_true rfl)) dX11_tellHad_65 ⟨Nat.zero_le _, Nat.zero_le _⟩) ?_
          refine lv_aload_n hx hb dX11_tellHad_68 rfl (lv_at hl 1 rfl) ?_
          refine za_getr (k := 6) hx hb hts hin11 hown hK hP zF_64_6 rfl (Nat.le_of_ble_eq_true rfl) (Or.inl hw1) dX11_tellHad_69 ?_
          refine lv_iload_n hx hb dX11_tellHad_72 rfl (lv_at hl 0 rfl) ?_
          obtain ⟨g34, h⟩ := gd_s h
          refine za_ild hx hb hK hP zI_68 g34 dX11_tellHad_73 ?_
          refine lv_icmp_le (tgt := 86) hx hb dX11_tellHad_74 (by decide) (fun c35 => ?_) (fun c35 => ?_)
          · have h := vz_t c35 h
            refine lv_aload_n hx hb dX11_tellHad_86 rfl (lv_at hl 1 rfl) ?_
            refine za_getr (k := 6) hx hb hts hin11 hown hK hP zF_64_6 rfl (Nat.le_of_ble_eq_true rfl) (Or.inl hw1) dX11_tellHad_87 ?_
            refine lv_iload_n hx hb dX11_tellHad_90 rfl (lv_at hl 0 rfl) ?_
            obtain ⟨g36, h⟩ := gd_s h
            refine za_ild hx hb hK hP zI_68 g36 dX11_tellHad_91 ?_
            obtain ⟨g37, h⟩ := gd_s h
            refine za_ist hx hb hK hP hD hS zI_68 g37 dX11_tellHad_92 (fun H locs hP hS => ?_)
            refine lv_iinc (v := (x1 + 1)) (lv' := [(1, .int (x1 + 1)), (2, .int (((10 : Int32) * r29) + r31)), (0, .ref (ad 64))]) hx hb dX11_tellHad_93 hl (k := 2) rfl rfl (by decide) rfl (fun ls hl => ?_)
            refine lv_goto (tgt := 23) hx hb dX11_tellHad_96 (by decide) ?_
            exact ih (x1 + 1) (sU u 6 (((10 : Int32) * r29) + r31).toNatClampNeg (u 6 (((10 : Int32) * r29) + r31).toNatClampNeg)) v _ _ ls o h hP hS (lv_sub hl [2, 0] rfl) hk
          · have h := vz_f c35 h
            refine lv_aload_n hx hb dX11_tellHad_77 rfl (lv_at hl 1 rfl) ?_
            refine lv_iload_n hx hb dX11_tellHad_78 rfl (lv_at hl 2 rfl) ?_
            refine lv_iconst (v := (2 : Int32)) hx hb dX11_tellHad_79 (by decide) ?_
            obtain ⟨r39, hc38, h⟩ := vz_b h
            refine za_callR (va_runV (As := [.int x1, .int (2 : Int32)]) (rest := [.int (((10 : Int32) * r29) + r31), .ref (ad 68)]) ⟨hx, hb, hml, hown, hts⟩ (k_X11_findAt l (D := D) (cI := cI) (cJ := cJ) (ad := ad) hc38) (cwV 2 hts gX11_tellHad_X11_findAt rfl rfl rfl ⟨rfl, zd_X11_findAt⟩ ⟨Nat.le_of_ble_eq_true rfl, Nat.le_of_ble_eq_true rfl⟩) (xPreV (ci := 11) hK hP rfl zO_64) rfl rfl hl.1 rfl (lv_room (Nat.le_of_ble_eq_true rfl)) dX11_tellHad_80 ⟨Nat.zero_le _, Nat.zero_le _⟩) ?_
            refine lv_goto (tgt := 92) hx hb dX11_tellHad_83 (by decide) ?_
            obtain ⟨g40, h⟩ := gd_s h
            refine za_ist hx hb hK hP hD hS zI_68 g40 dX11_tellHad_92 (fun H locs hP hS => ?_)
            refine lv_iinc (v := (x1 + 1)) (lv' := [(1, .int (x1 + 1)), (2, .int (((10 : Int32) * r29) + r31)), (0, .ref (ad 64))]) hx hb dX11_tellHad_93 hl (k := 2) rfl rfl (by decide) rfl (fun ls hl => ?_)
            refine lv_goto (tgt := 23) hx hb dX11_tellHad_96 (by decide) ?_
            exact ih (x1 + 1) (sU u 6 (((10 : Int32) * r29) + r31).toNatClampNeg r39) v _ _ ls o h hP hS (lv_sub hl [2, 0] rfl) hk
  rw [pX11_tellHad] at h
  refine lv_iconst (v := (0 : Int32)) hx hb dX11_tellHad_0 (by decide) ?_
  refine lv_istore_n (lv' := [(1, .int (0 : Int32)), (0, .ref (ad 64))]) hx hb dX11_tellHad_1 rfl hl (by decide) rfl (fun ls hl => ?_)
  obtain ⟨o41, hL42, h⟩ := vz_b h
  refine L2 fuel (0 : Int32) u v _ _ ls o41 hL42 hP hS (lv_sub hl [1, 0] rfl) (fun u44 v45 H locs ls e43 hP hS hl => ?_)
  try rw [e43] at h
  try dsimp only at h
  refine lv_iconst (v := (0 : Int32)) hx hb dX11_tellHad_21 (by decide) ?_
  refine lv_istore_n (lv' := [(1, .int (0 : Int32)), (0, .ref (ad 64))]) hx hb dX11_tellHad_22 rfl hl (by decide) rfl (fun ls hl => ?_)
  obtain ⟨o46, hL47, h⟩ := vz_b h
  refine L23 fuel (0 : Int32) u44 v45 _ _ ls o46 hL47 hP hS (lv_sub hl [1, 0] rfl) (fun u49 v50 H locs ls e48 hP hS hl => ?_)
  try rw [e48] at h
  try dsimp only at h
  refine lv_iconst (v := (0 : Int32)) hx hb dX11_tellHad_99 (by decide) ?_
  refine lv_istore_n (lv' := [(1, .int (0 : Int32)), (0, .ref (ad 64))]) hx hb dX11_tellHad_100 rfl hl (by decide) rfl (fun ls hl => ?_)
  obtain ⟨o51, hL52, h⟩ := vz_b h
  refine L101 fuel (0 : Int32) u49 v50 _ _ ls o51 hL52 hP hS (lv_sub hl [1, 0] rfl) (fun u54 v55 H locs ls e53 hP hS hl => ?_)
  try rw [e53] at h
  try dsimp only at h
  cases h
  exact W.vret hx hb hr (fun t ht _ => ⟨rfl, by rw [ht]; exact hP, hS.F ht⟩) hS.2.2 dX11_tellHad_161
