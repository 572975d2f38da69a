abbrev rmJ6_bitCount_0f7a4 : Room := { frames := 0, cells := 0, slots := 0, locals := 0 }
set_option maxHeartbeats 4000000 in
set_option maxRecDepth 100000 in
theorem k_J6_bitCount_0f7a4 (l : Launch) {a0 : Int32}  {r : Int32}  (h : pJ6_bitCount_0f7a4 a0 = some r) : Met l yJ6_bitCount_0f7a4 wsJ6_bitCount_0f7a4 rmJ6_bitCount_0f7a4 (va_Pc [.int a0] (fun _ => True)) (QcRead r) 0 0 (fun _ => False) := by
  refine Met.ofW (cc := cJ6_bitCount_0f7a4) (maxL := 1) (ret := (some .int)) (by decide) rfl ?_
  intro p e s m args below meth c s₁ B hml hv
  obtain ⟨rfl, -⟩ := hv
  have hx := B.exec
  have hb := B.bytes
  have hr := B.returns
  have hts := atoms_spec (ws := wsJ6_bitCount_0f7a4) B.pre
  have hown : s.vm.findClass RJ6 = some m.cls := findClass_of_methodNamed B.named
  have hlocks := B.notSynchronized
  have hw1 := hts (.constant RJ6 265 (1431655765)) (List.mem_of_getElem? (i := 1) rfl)
  have hw2 := hts (.constant RJ6 266 (858993459)) (List.mem_of_getElem? (i := 2) rfl)
  have hw3 := hts (.constant RJ6 267 (252645135)) (List.mem_of_getElem? (i := 3) rfl)
  have hl := lv_entry ([.int a0]) (n := 1) (Nat.le_of_ble_eq_true rfl)
  rw [lg_entry_eq]
  generalize (lg_sl ([.int a0]) ++ List.replicate (1 - (lg_sl ([.int a0])).length) Slot.unset).toArray = ls at hl ⊢
  have hl : lv_has ls 1 [(0, .int a0)] := hl
  rw [pJ6_bitCount_0f7a4] at h
  refine lv_iload_n hx hb dJ6_bitCount_0f7a4_0 rfl (lv_at hl 0 rfl) ?_
  refine lv_iload_n hx hb dJ6_bitCount_0f7a4_1 rfl (lv_at hl 0 rfl) ?_
  refine lv_iconst (v := (1 : Int32)) hx hb dJ6_bitCount_0f7a4_2 (by decide) ?_
  refine lv_iushr (v := (a0.toUInt32 >>> ((1 : Int32).toUInt32 &&& Int32.toUInt32 31)).toInt32) hx hb dJ6_bitCount_0f7a4_3 rfl ?_
  refine lv_ldcw (v := (1431655765 : Int32)) hx hb hown hw1 dJ6_bitCount_0f7a4_4 ?_
  refine lv_iand hx hb dJ6_bitCount_0f7a4_7 ?_
  refine lv_isub hx hb dJ6_bitCount_0f7a4_8 ?_
  refine lv_istore_n (lv' := [(0, .int (a0 - ((a0.toUInt32 >>> ((1 : Int32).toUInt32 &&& Int32.toUInt32 31)).toInt32 &&& (1431655765 : Int32))))]) hx hb dJ6_bitCount_0f7a4_9 rfl hl (by decide) rfl (fun ls hl => ?_)
  refine lv_iload_n hx hb dJ6_bitCount_0f7a4_10 rfl (lv_at hl 0 rfl) ?_
  refine lv_ldcw (v := (858993459 : Int32)) hx hb hown hw2 dJ6_bitCount_0f7a4_11 ?_
  refine lv_iand hx hb dJ6_bitCount_0f7a4_14 ?_
  refine lv_iload_n hx hb dJ6_bitCount_0f7a4_15 rfl (lv_at hl 0 rfl) ?_
  refine lv_iconst (v := (2 : Int32)) hx hb dJ6_bitCount_0f7a4_16 (by decide) ?_
  refine lv_iushr (v := ((a0 - ((a0.toUInt32 >>> ((1 : Int32).toUInt32 &&& Int32.toUInt32 31)).toInt32 &&& (1431655765 : Int32))).toUInt32 >>> ((2 : Int32).toUInt32 &&& Int32.toUInt32 31)).toInt32) hx hb dJ6_bitCount_0f7a4_17 rfl ?_
  refine lv_ldcw (v := (858993459 : Int32)) hx hb hown hw2 dJ6_bitCount_0f7a4_18 ?_
  refine lv_iand hx hb dJ6_bitCount_0f7a4_21 ?_
  refine lv_iadd hx hb dJ6_bitCount_0f7a4_22 ?_
  refine lv_istore_n (lv' := [(0, .int (((a0 - ((a0.toUInt32 >>> ((1 : Int32).toUInt32 &&& Int32.toUInt32 31)).toInt32 &&& (1431655765 : Int32))) &&& (858993459 : Int32)) + (((a0 - ((a0.toUInt32 >>> ((1 : Int32).toUInt32 &&& Int32.toUInt32 31)).toInt32 &&& (1431655765 : Int32))).toUInt32 >>> ((2 : Int32).toUInt32 &&& Int32.toUInt32 31)).toInt32 &&& (858993459 : Int32))))]) hx hb dJ6_bitCount_0f7a4_23 rfl hl (by decide) rfl (fun ls hl => ?_)
  refine lv_iload_n hx hb dJ6_bitCount_0f7a4_24 rfl (lv_at hl 0 rfl) ?_
  refine lv_iload_n hx hb dJ6_bitCount_0f7a4_25 rfl (lv_at hl 0 rfl) ?_
  refine lv_iconst (v := (4 : Int32)) hx hb dJ6_bitCount_0f7a4_26 (by decide) ?_
  refine lv_iushr (v := ((((a0 - ((a0.toUInt32 >>> ((1 : Int32).toUInt32 &&& Int32.toUInt32 31)).toInt32 &&& (1431655765 : Int32))) &&& (858993459 : Int32)) + (((a0 - ((a0.toUInt32 >>> ((1 : Int32).toUInt32 &&& Int32.toUInt32 31)).toInt32 &&& (1431655765 : Int32))).toUInt32 >>> ((2 : Int32).toUInt32 &&& Int32.toUInt32 31)).toInt32 &&& (858993459 : Int32))).toUInt32 >>> ((4 : Int32).toUInt32 &&& Int32.toUInt32 31)).toInt32) hx hb dJ6_bitCount_0f7a4_27 rfl ?_
  refine lv_iadd hx hb dJ6_bitCount_0f7a4_28 ?_
  refine lv_ldcw (v := (252645135 : Int32)) hx hb hown hw3 dJ6_bitCount_0f7a4_29 ?_
  refine lv_iand hx hb dJ6_bitCount_0f7a4_32 ?_
  refine lv_istore_n (lv' := [(0, .int (((((a0 - ((a0.toUInt32 >>> ((1 : Int32).toUInt32 &&& Int32.toUInt32 31)).toInt32 &&& (1431655765 : Int32))) &&& (858993459 : Int32)) + (((a0 - ((a0.toUInt32 >>> ((1 : Int32).toUInt32 &&& Int32.toUInt32 31)).toInt32 &&& (1431655765 : Int32))).toUInt32 >>> ((2 : Int32).toUInt32 &&& Int32.toUInt32 31)).toInt32 &&& (858993459 : Int32))) + ((((a0 - ((a0.toUInt32 >>> ((1 : Int32).toUInt32 &&& Int32.toUInt32 31)).toInt32 &&& (1431655765 : Int32))) &&& (858993459 : Int32)) + (((a0 - ((a0.toUInt32 >>> ((1 : Int32).toUInt32 &&& Int32.toUInt32 31)).toInt32 &&& (1431655765 : Int32))).toUInt32 >>> ((2 : Int32).toUInt32 &&& Int32.toUInt32 31)).toInt32 &&& (858993459 : Int32))).toUInt32 >>> ((4 : Int32).toUInt32 &&& Int32.toUInt32 31)).toInt32) &&& (252645135 : Int32)))]) hx hb dJ6_bitCount_0f7a4_33 rfl hl (by decide) rfl (fun ls hl => ?_)
  refine lv_iload_n hx hb dJ6_bitCount_0f7a4_34 rfl (lv_at hl 0 rfl) ?_
  refine lv_iload_n hx hb dJ6_bitCount_0f7a4_35 rfl (lv_at hl 0 rfl) ?_
  refine lv_bipush (v := (8 : Int32)) hx hb dJ6_bitCount_0f7a4_36 (by decide) ?_
  refine lv_iushr (v := ((((((a0 - ((a0.toUInt32 >>> ((1 : Int32).toUInt32 &&& Int32.toUInt32 31)).toInt32 &&& (1431655765 : Int32))) &&& (858993459 : Int32)) + (((a0 - ((a0.toUInt32 >>> ((1 : Int32).toUInt32 &&& Int32.toUInt32 31)).toInt32 &&& (1431655765 : Int32))).toUInt32 >>> ((2 : Int32).toUInt32 &&& Int32.toUInt32 31)).toInt32 &&& (858993459 : Int32))) + ((((a0 - ((a0.toUInt32 >>> ((1 : Int32).toUInt32 &&& Int32.toUInt32 31)).toInt32 &&& (1431655765 : Int32))) &&& (858993459 : Int32)) + (((a0 - ((a0.toUInt32 >>> ((1 : Int32).toUInt32 &&& Int32.toUInt32 31)).toInt32 &&& (1431655765 : Int32))).toUInt32 >>> ((2 : Int32).toUInt32 &&& Int32.toUInt32 31)).toInt32 &&& (858993459 : Int32))).toUInt32 >>> ((4 : Int32).toUInt32 &&& Int32.toUInt32 31)).toInt32) &&& (252645135 : Int32)).toUInt32 >>> ((8 : Int32).toUInt32 &&& Int32.toUInt32 31)).toInt32) hx hb dJ6_bitCount_0f7a4_38 rfl ?_
  refine lv_iadd hx hb dJ6_bitCount_0f7a4_39 ?_
  refine lv_istore_n (lv' := [(0, .int ((((((a0 - ((a0.toUInt32 >>> ((1 : Int32).toUInt32 &&& Int32.toUInt32 31)).toInt32 &&& (1431655765 : Int32))) &&& (858993459 : Int32)) + (((a0 - ((a0.toUInt32 >>> ((1 : Int32).toUInt32 &&& Int32.toUInt32 31)).toInt32 &&& (1431655765 : Int32))).toUInt32 >>> ((2 : Int32).toUInt32 &&& Int32.toUInt32 31)).toInt32 &&& (858993459 : Int32))) + ((((a0 - ((a0.toUInt32 >>> ((1 : Int32).toUInt32 &&& Int32.toUInt32 31)).toInt32 &&& (1431655765 : Int32))) &&& (858993459 : Int32)) + (((a0 - ((a0.toUInt32 >>> ((1 : Int32).toUInt32 &&& Int32.toUInt32 31)).toInt32 &&& (1431655765 : Int32))).toUInt32 >>> ((2 : Int32).toUInt32 &&& Int32.toUInt32 31)).toInt32 &&& (858993459 : Int32))).toUInt32 >>> ((4 : Int32).toUInt32 &&& Int32.toUInt32 31)).toInt32) &&& (252645135 : Int32)) + ((((((a0 - ((a0.toUInt32 >>> ((1 : Int32).toUInt32 &&& Int32.toUInt32 31)).toInt32 &&& (1431655765 : Int32))) &&& (858993459 : Int32)) + (((a0 - ((a0.toUInt32 >>> ((1 : Int32).toUInt32 &&& Int32.toUInt32 31)).toInt32 &&& (1431655765 : Int32))).toUInt32 >>> ((2 : Int32).toUInt32 &&& Int32.toUInt32 31)).toInt32 &&& (858993459 : Int32))) + ((((a0 - ((a0.toUInt32 >>> ((1 : Int32).toUInt32 &&& Int32.toUInt32 31)).toInt32 &&& (1431655765 : Int32))) &&& (858993459 : Int32)) + (((a0 - ((a0.toUInt32 >>> ((1 : Int32).toUInt32 &&& Int32.toUInt32 31)).toInt32 &&& (1431655765 : Int32))).toUInt32 >>> ((2 : Int32).toUInt32 &&& Int32.toUInt32 31)).toInt32 &&& (858993459 : Int32))).toUInt32 >>> ((4 : Int32).toUInt32 &&& Int32.toUInt32 31)).toInt32) &&& (252645135 : Int32)).toUInt32 >>> ((8 : Int32).toUInt32 &&& Int32.toUInt32 31)).toInt32))]) hx hb dJ6_bitCount_0f7a4_40 rfl hl (by decide) rfl (fun ls hl => ?_)
  refine lv_iload_n hx hb dJ6_bitCount_0f7a4_41 rfl (lv_at hl 0 rfl) ?_
  refine lv_iload_n hx hb dJ6_bitCount_0f7a4_42 rfl (lv_at hl 0 rfl) ?_
  refine lv_bipush (v := (16 : Int32)) hx hb dJ6_bitCount_0f7a4_43 (by decide) ?_
  refine lv_iushr (v := (((((((a0 - ((a0.toUInt32 >>> ((1 : Int32).toUInt32 &&& Int32.toUInt32 31)).toInt32 &&& (1431655765 : Int32))) &&& (858993459 : Int32)) + (((a0 - ((a0.toUInt32 >>> ((1 : Int32).toUInt32 &&& Int32.toUInt32 31)).toInt32 &&& (1431655765 : Int32))).toUInt32 >>> ((2 : Int32).toUInt32 &&& Int32.toUInt32 31)).toInt32 &&& (858993459 : Int32))) + ((((a0 - ((a0.toUInt32 >>> ((1 : Int32).toUInt32 &&& Int32.toUInt32 31)).toInt32 &&& (1431655765 : Int32))) &&& (858993459 : Int32)) + (((a0 - ((a0.toUInt32 >>> ((1 : Int32).toUInt32 &&& Int32.toUInt32 31)).toInt32 &&& (1431655765 : Int32))).toUInt32 >>> ((2 : Int32).toUInt32 &&& Int32.toUInt32 31)).toInt32 &&& (858993459 : Int32))).toUInt32 >>> ((4 : Int32).toUInt32 &&& Int32.toUInt32 31)).toInt32) &&& (252645135 : Int32)) + ((((((a0 - ((a0.toUInt32 >>> ((1 : Int32).toUInt32 &&& Int32.toUInt32 31)).toInt32 &&& (1431655765 : Int32))) &&& (858993459 : Int32)) + (((a0 - ((a0.toUInt32 >>> ((1 : Int32).toUInt32 &&& Int32.toUInt32 31)).toInt32 &&& (1431655765 : Int32))).toUInt32 >>> ((2 : Int32).toUInt32 &&& Int32.toUInt32 31)).toInt32 &&& (858993459 : Int32))) + ((((a0 - ((a0.toUInt32 >>> ((1 : Int32).toUInt32 &&& Int32.toUInt32 31)).toInt32 &&& (1431655765 : Int32))) &&& (858993459 : Int32)) + (((a0 - ((a0.toUInt32 >>> ((1 : Int32).toUInt32 &&& Int32.toUInt32 31)).toInt32 &&& (1431655765 : Int32))).toUInt32 >>> ((2 : Int32).toUInt32 &&& Int32.toUInt32 31)).toInt32 &&& (858993459 : Int32))).toUInt32 >>> ((4 : Int32).toUInt32 &&& Int32.toUInt32 31)).toInt32) &&& (252645135 : Int32)).toUInt32 >>> ((8 : Int32).toUInt32 &&& Int32.toUInt32 31)).toInt32).toUInt32 >>> ((16 : Int32).toUInt32 &&& Int32.toUInt32 31)).toInt32) hx hb dJ6_bitCount_0f7a4_45 rfl ?_
  refine lv_iadd hx hb dJ6_bitCount_0f7a4_46 ?_
  refine lv_istore_n (lv' := [(0, .int (((((((a0 - ((a0.toUInt32 >>> ((1 : Int32).toUInt32 &&& Int32.toUInt32 31)).toInt32 &&& (1431655765 : Int32))) &&& (858993459 : Int32)) + (((a0 - ((a0.toUInt32 >>> ((1 : Int32).toUInt32 &&& Int32.toUInt32 31)).toInt32 &&& (1431655765 : Int32))).toUInt32 >>> ((2 : Int32).toUInt32 &&& Int32.toUInt32 31)).toInt32 &&& (858993459 : Int32))) + ((((a0 - ((a0.toUInt32 >>> ((1 : Int32).toUInt32 &&& Int32.toUInt32 31)).toInt32 &&& (1431655765 : Int32))) &&& (858993459 : Int32)) + (((a0 - ((a0.toUInt32 >>> ((1 : Int32).toUInt32 &&& Int32.toUInt32 31)).toInt32 &&& (1431655765 : Int32))).toUInt32 >>> ((2 : Int32).toUInt32 &&& Int32.toUInt32 31)).toInt32 &&& (858993459 : Int32))).toUInt32 >>> ((4 : Int32).toUInt32 &&& Int32.toUInt32 31)).toInt32) &&& (252645135 : Int32)) + ((((((a0 - ((a0.toUInt32 >>> ((1 : Int32).toUInt32 &&& Int32.toUInt32 31)).toInt32 &&& (1431655765 : Int32))) &&& (858993459 : Int32)) + (((a0 - ((a0.toUInt32 >>> ((1 : Int32).toUInt32 &&& Int32.toUInt32 31)).toInt32 &&& (1431655765 : Int32))).toUInt32 >>> ((2 : Int32).toUInt32 &&& Int32.toUInt32 31)).toInt32 &&& (858993459 : Int32))) + ((((a0 - ((a0.toUInt32 >>> ((1 : Int32).toUInt32 &&& Int32.toUInt32 31)).toInt32 &&& (1431655765 : Int32))) &&& (858993459 : Int32)) + (((a0 - ((a0.toUInt32 >>> ((1 : Int32).toUInt32 &&& Int32.toUInt32 31)).toInt32 &&& (1431655765 : Int32))).toUInt32 >>> ((2 : Int32).toUInt32 &&& Int32.toUInt32 31)).toInt32 &&& (858993459 : Int32))).toUInt32 >>> ((4 : Int32).toUInt32 &&& Int32.toUInt32 31)).toInt32) &&& (252645135 : Int32)).toUInt32 >>> ((8 : Int32).toUInt32 &&& Int32.toUInt32 31)).toInt32) + (((((((a0 - ((a0.toUInt32 >>> ((1 : Int32).toUInt32 &&& Int32.toUInt32 31)).toInt32 &&& (1431655765 : Int32))) &&& (858993459 : Int32)) + (((a0 - ((a0.toUInt32 >>> ((1 : Int32).toUInt32 &&& Int32.toUInt32 31)).toInt32 &&& (1431655765 : Int32))).toUInt32 >>> ((2 : Int32).toUInt32 &&& Int32.toUInt32 31)).toInt32 &&& (858993459 : Int32))) + ((((a0 - ((a0.toUInt32 >>> ((1 : Int32).toUInt32 &&& Int32.toUInt32 31)).toInt32 &&& (1431655765 : Int32))) &&& (858993459 : Int32)) + (((a0 - ((a0.toUInt32 >>> ((1 : Int32).toUInt32 &&& Int32.toUInt32 31)).toInt32 &&& (1431655765 : Int32))).toUInt32 >>> ((2 : Int32).toUInt32 &&& Int32.toUInt32 31)).toInt32 &&& (858993459 : Int32))).toUInt32 >>> ((4 : Int32).toUInt32 &&& Int32.toUInt32 31)).toInt32) &&& (252645135 : Int32)) + ((((((a0 - ((a0.toUInt32 >>> ((1 : Int32).toUInt32 &&& Int32.toUInt32 31)).toInt32 &&& (1431655765 : Int32))) &&& (858993459 : Int32)) + (((a0 - ((a0.toUInt32 >>> ((1 : Int32).toUInt32 &&& Int32.toUInt32 31)).toInt32 &&& (1431655765 : Int32))).toUInt32 >>> ((2 : Int32).toUInt32 &&& Int32.toUInt32 31)).toInt32 &&& (858993459 : Int32))) + ((((a0 - ((a0.toUInt32 >>> ((1 : Int32).toUInt32 &&& Int32.toUInt32 31)).toInt32 &&& (1431655765 : Int32))) &&& (858993459 : Int32)) + (((a0 - ((a0.toUInt32 >>> ((1 : Int32).toUInt32 &&& Int32.toUInt32 31)).toInt32 &&& (1431655765 : Int32))).toUInt32 >>> ((2 : Int32).toUInt32 &&& Int32.toUInt32 31)).toInt32 &&& (858993459 : Int32))).toUInt32 >>> ((4 : Int32).toUInt32 &&& Int32.toUInt32 31)).toInt32) &&& (252645135 : Int32)).toUInt32 >>> ((8 : Int32).toUInt32 &&& Int32.toUInt32 31)).toInt32).toUInt32 >>> ((16 : Int32).toUInt32 &&& Int32.toUInt32 31)).toInt32))]) hx hb dJ6_bitCount_0f7a4_47 rfl hl (by decide) rfl (fun ls hl => ?_)
  refine lv_iload_n hx hb dJ6_bitCount_0f7a4_48 rfl (lv_at hl 0 rfl) ?_
  refine lv_bipush (v := (63 : Int32)) hx hb dJ6_bitCount_0f7a4_49 (by decide) ?_
  refine lv_iand hx hb dJ6_bitCount_0f7a4_51 ?_
  cases h
  exact W.iret hx hb hr (fun t ht _ => ⟨rfl, ht⟩) (fun q hq => absurd hq List.not_mem_nil) dJ6_bitCount_0f7a4_52
abbrev rmJ7_fill_53178 : Room := { frames := 0, cells := 0, slots := 0, locals := 0 }
set_option maxHeartbeats 4000000 in
set_option maxRecDepth 100000 in
theorem k_J7_fill_53178 (l : Launch) {D : va_G} {cI cJ : ClassId} {ad : Nat → Nat} {u : tU} {v : tV} {A : Nat → Prop} (hD : zD A cI cJ ad) {a1 : Int32}  {uz : tU} {vz : tV} (h : pJ7_fill_53178 u v a1 = some (uz, vz)) : Met l yJ7_fill_53178 wsJ7_fill_53178 rmJ7_fill_53178 (va_Pc [.ref (ad 61), .int a1] (xPre D cI cJ (wA cI cJ ad u v))) (xWv D cI cJ ad A uz vz) 0 0 A := by
  refine Met.ofW (cc := cJ7_fill_53178) (maxL := 4) (ret := none) (by decide) rfl ?_
  intro p e s m args below meth c s₁ B hml hv
  obtain ⟨rfl, hP, hK⟩ := hv
  have hx := B.exec
  have hb := B.bytes
  have hr := B.returns
  have hts := atoms_spec (ws := wsJ7_fill_53178) B.pre
  have hown : s.vm.findClass RJ7 = some m.cls := findClass_of_methodNamed B.named
  have hlocks := B.notSynchronized
  have hS : va_S A s.heap s.heap [] := va_S.rf
  have hl := lv_entry ([.ref (ad 61), .int a1]) (n := 4) (Nat.le_of_ble_eq_true rfl)
  rw [lg_entry_eq]
  generalize (lg_sl ([.ref (ad 61), .int a1]) ++ List.replicate (4 - (lg_sl ([.ref (ad 61), .int a1])).length) Slot.unset).toArray = ls at hl ⊢
  have hl : lv_has ls 4 [(0, .ref (ad 61)), (1, .int a1)] := hl
  have L5 : ∀ (x1 : Int32) (x3 : Int32) (n : Nat) (x2 : Int32) (u : tU) (v : tV) (H : Heap) (locs : List Loc) (ls : Array Slot) (o : tU × tV), pJ7_fill_53178_L5 x1 x3 n x2 u v = some o → va_P D vwCl (wA cI cJ ad u v) H → va_S A s.heap H locs → lv_has ls 4 [(0, .ref (ad 61)), (1, .int x1), (2, .int x2), (3, .int x3)] → (∀ (u' : tU) (v' : tV) (H : Heap) (locs : List Loc) (ls : Array Slot), o = (u', v') → va_P D vwCl (wA cI cJ ad u' v') H → va_S A s.heap H locs → lv_has ls 4 [] → W p l e (headSpec wsJ7_fill_53178 rmJ7_fill_53178).room s m [Value.ref (ad 61), Value.int a1].toArray below meth c H locs 0 0 (MQ below (xWv D cI cJ ad A uz vz) [Value.ref (ad 61), Value.int a1].toArray s 0 0 A) (F0 m 20 ls [])) → W p l e (headSpec wsJ7_fill_53178 rmJ7_fill_53178).room s m [Value.ref (ad 61), Value.int a1].toArray below meth c H locs 0 0 (MQ below (xWv D cI cJ ad A uz vz) [Value.ref (ad 61), Value.int a1].toArray s 0 0 A) (F0 m 5 ls []) := by
    intro x1 x3 n
    induction n with
    | zero => intro x2 u v H locs ls o h; cases h
    | succ n ih =>
      intro x2 u v H locs ls o h hP hS hl hk
      rw [pJ7_fill_53178_L5] at h
      refine lv_iload_n hx hb dJ7_fill_53178_5 rfl (lv_at hl 2 rfl) ?_
      refine lv_iload_n hx hb dJ7_fill_53178_6 rfl (lv_at hl 3 rfl) ?_
      refine lv_icmp_ge (tgt := 20) hx hb dJ7_fill_53178_7 (by decide) (fun c1 => ?_) (fun c1 => ?_)
      · have h := vz_t c1 h
        cases h
        exact hk u v _ _ ls rfl hP hS (lv_sub hl [] rfl)
      · have h := vz_f c1 h
        refine lv_aload_n hx hb dJ7_fill_53178_10 rfl (lv_at hl 0 rfl) ?_
        refine lv_iload_n hx hb dJ7_fill_53178_11 rfl (lv_at hl 2 rfl) ?_
        refine lv_iload_n hx hb dJ7_fill_53178_12 rfl (lv_at hl 1 rfl) ?_
        obtain ⟨g2, h⟩ := gd_s h
        refine za_ist hx hb hK hP hD hS zI_61 g2 dJ7_fill_53178_13 (fun H locs hP hS => ?_)
        refine lv_iinc (v := (x2 + 1)) (lv' := [(2, .int (x2 + 1)), (0, .ref (ad 61)), (1, .int x1), (3, .int x3)]) hx hb dJ7_fill_53178_14 hl (k := 2) rfl rfl (by decide) rfl (fun ls hl => ?_)
        refine lv_goto (tgt := 5) hx hb dJ7_fill_53178_17 (by decide) ?_
        exact ih (x2 + 1) (sU u 1 x2.toNatClampNeg x1) v _ _ ls o h hP hS (lv_sub hl [1, 2, 0, 3] rfl) hk
  rw [pJ7_fill_53178] at h
  refine lv_iconst (v := (0 : Int32)) hx hb dJ7_fill_53178_0 (by decide) ?_
  refine lv_istore_n (lv' := [(2, .int (0 : Int32)), (0, .ref (ad 61)), (1, .int a1)]) hx hb dJ7_fill_53178_1 rfl hl (by decide) rfl (fun ls hl => ?_)
  refine lv_aload_n hx hb dJ7_fill_53178_2 rfl (lv_at hl 1 rfl) ?_
  refine za_len (x := (80 : Int32)) hx hb hK hP zI_61 rfl dJ7_fill_53178_3 ?_
  refine lv_istore_n (lv' := [(3, .int (80 : Int32)), (2, .int (0 : Int32)), (0, .ref (ad 61)), (1, .int a1)]) hx hb dJ7_fill_53178_4 rfl hl (by decide) rfl (fun ls hl => ?_)
  obtain ⟨o3, hL4, h⟩ := vz_b h
  refine L5 a1 (80 : Int32) fuel (0 : Int32) u v _ _ ls o3 hL4 hP hS (lv_sub hl [2, 3, 1, 0] rfl) (fun u6 v7 H locs ls e5 hP hS hl => ?_)
  try rw [e5] at h
  try dsimp only at h
  cases h
  exact W.vret hx hb hr (fun t ht _ => ⟨rfl, by rw [ht]; exact hP, hS.F ht⟩) hS.2.2 dJ7_fill_53178_20
abbrev rmX10_signAt : Room := { frames := 0, cells := 0, slots := 0, locals := 0 }
set_option maxHeartbeats 4000000 in
set_option maxRecDepth 100000 in
theorem k_X10_signAt (l : Launch) {a0 : Int64} {a2 : Int32}  {r : Int32}  (h : pX10_signAt a0 a2 = some r) : Met l yX10_signAt wsX10_signAt rmX10_signAt (va_Pc [.long a0, .int a2] (fun _ => True)) (QcRead r) 0 0 (fun _ => False) := by
  refine Met.ofW (cc := cX10_signAt) (maxL := 3) (ret := (some .int)) (by decide) rfl ?_
  intro p e s m args below meth c s₁ B hml hv
  obtain ⟨rfl, -⟩ := hv
  have hx := B.exec
  have hb := B.bytes
  have hr := B.returns
  have hts := atoms_spec (ws := wsX10_signAt) B.pre
  have hown : s.vm.findClass RX10 = some m.cls := findClass_of_methodNamed B.named
  have hlocks := B.notSynchronized
  have hl := lv_entry ([.long a0, .int a2]) (n := 3) (Nat.le_of_ble_eq_true rfl)
  rw [lg_entry_eq]
  generalize (lg_sl ([.long a0, .int a2]) ++ List.replicate (3 - (lg_sl ([.long a0, .int a2])).length) Slot.unset).toArray = ls at hl ⊢
  have hl : lv_has ls 3 [(0, .long a0), (2, .int a2)] := hl
  rw [pX10_signAt] at h
  refine lv_lload_n hx hb dX10_signAt_0 rfl (lv_at hl 0 rfl) ?_
  refine lv_iconst (v := (5 : Int32)) hx hb dX10_signAt_1 (by decide) ?_
  refine lv_iload_n hx hb dX10_signAt_2 rfl (lv_at hl 1 rfl) ?_
  refine lv_imul hx hb dX10_signAt_3 ?_
  refine lv_lushr (v := (a0.toUInt64 >>> (((5 : Int32) * a2).toInt64.toUInt64 &&& Int64.toUInt64 63)).toInt64) hx hb dX10_signAt_4 rfl ?_
  refine lv_l2i (v := (a0.toUInt64 >>> (((5 : Int32) * a2).toInt64.toUInt64 &&& Int64.toUInt64 63)).toInt64.toInt32) hx hb dX10_signAt_5 rfl ?_
  refine lv_bipush (v := (31 : Int32)) hx hb dX10_signAt_6 (by decide) ?_
  refine lv_iand hx hb dX10_signAt_8 ?_
  cases h
  exact W.iret hx hb hr (fun t ht _ => ⟨rfl, ht⟩) (fun q hq => absurd hq List.not_mem_nil) dX10_signAt_9
abbrev rmX0_isFitting : Room := { frames := 1, cells := 0, slots := 0, locals := 22 }
set_option maxHeartbeats 4000000 in
set_option maxRecDepth 100000 in
theorem k_X0_isFitting (l : Launch) {D : va_G} {cI cJ : ClassId} {ad : Nat → Nat} {u : tU} {v : tV} {a1 : Int32} {a2 : Int32}  {r : Int32}  (h : pX0_isFitting u v a1 a2 = some r) : Met l yX0_isFitting wsX0_isFitting rmX0_isFitting (va_Pc [.ref (ad 2), .int a1, .int a2] (xPre D cI cJ (wA cI cJ ad u v))) (QcRead r) 0 0 (fun _ => False) := by
  refine Met.ofW (cc := cX0_isFitting) (maxL := 10) (ret := (some .boolean)) (by decide) rfl ?_
  intro p e s m args below meth c s₁ B hml hv
  obtain ⟨rfl, hP, hK⟩ := hv
  have hx := B.exec
  have hb := B.bytes
  have hr := B.returns
  have hts := atoms_spec (ws := wsX0_isFitting) B.pre
  have hown : s.vm.findClass RX0 = some m.cls := findClass_of_methodNamed B.named
  have hlocks := B.notSynchronized
  have hin0 : ∀ w ∈ u_ws RX0 TX0 8, w ∈ wsX0_isFitting := fun _ h => List.mem_cons_of_mem _ (List.mem_append_left _ (List.mem_append_left _ (List.mem_append_right _ h)))
  have hin1 : ∀ w ∈ u_ws RX1 TX1 5, w ∈ wsX0_isFitting := fun _ h => List.mem_cons_of_mem _ (List.mem_append_right _ h)
  have hin8 : ∀ w ∈ u_ws RX8 TX8 4, w ∈ wsX0_isFitting := fun _ h => List.mem_cons_of_mem _ (List.mem_append_left _ (List.mem_append_right _ h))
  have hw1 := hts (.fieldLink RX0 21 "InstallDesk$Books" "rules" "LInstallDesk$Rules;") (List.mem_of_getElem? (i := 1) rfl)
  have hw2 := hts (.fieldLink RX0 35 "InstallDesk$Books" "finds" "LInstallDesk$Finds;") (List.mem_of_getElem? (i := 2) rfl)
  have hw3 := hts (.static yX10_signAt) (List.mem_of_getElem? (i := 3) rfl)
  have hw4 := hts (.initialized RX10) (List.mem_of_getElem? (i := 4) rfl)
  have hl := lv_entry ([.ref (ad 2), .int a1, .int a2]) (n := 10) (Nat.le_of_ble_eq_true rfl)
  rw [lg_entry_eq]
  generalize (lg_sl ([.ref (ad 2), .int a1, .int a2]) ++ List.replicate (10 - (lg_sl ([.ref (ad 2), .int a1, .int a2])).length) Slot.unset).toArray = ls at hl ⊢
  have hl : lv_has ls 10 [(0, .ref (ad 2)), (1, .int a1), (2, .int a2)] := hl
  have L24 : ∀ (x3 : Int64) (x5 : Int64) (n : Nat) (x7 : Int32) (ls : Array Slot) (o : (Int32) ⊕ (Unit)), pX0_isFitting_L24 u v x3 x5 n x7 = some o → lv_has ls 10 [(3, .long x3), (5, .long x5), (7, .int x7)] → (∀ rr : Int32, o = .inl rr → rr = r) → (∀ (ls : Array Slot), o = .inr () → lv_has ls 10 [] → W p l e (headSpec wsX0_isFitting rmX0_isFitting).room s m [Value.ref (ad 2), Value.int a1, Value.int a2].toArray below meth c s.heap [] 0 0 (MQ below (QcRead r) [Value.ref (ad 2), Value.int a1, Value.int a2].toArray s 0 0 (fun _ => False)) (F0 m 102 ls [])) → W p l e (headSpec wsX0_isFitting rmX0_isFitting).room s m [Value.ref (ad 2), Value.int a1, Value.int a2].toArray below meth c s.heap [] 0 0 (MQ below (QcRead r) [Value.ref (ad 2), Value.int a1, Value.int a2].toArray s 0 0 (fun _ => False)) (F0 m 24 ls []) := by
    intro x3 x5 n
    induction n with
    | zero => intro x7 ls o h; cases h
    | succ n ih =>
      intro x7 ls o h hl hret hk
      rw [pX0_isFitting_L24] at h
      refine lv_iload hx hb dX0_isFitting_24 (lv_at hl 2 rfl) ?_
      refine lv_bipush (v := (12 : Int32)) hx hb dX0_isFitting_26 (by decide) ?_
      refine lv_icmp_ge (tgt := 102) hx hb dX0_isFitting_28 (by decide) (fun c1 => ?_) (fun c1 => ?_)
      · have h := vz_t c1 h
        cases h
        exact hk ls rfl (lv_sub hl [] rfl)
      · have h := vz_f c1 h
        refine lv_lload_n hx hb dX0_isFitting_31 rfl (lv_at hl 0 rfl) ?_
        refine lv_iload hx hb dX0_isFitting_32 (lv_at hl 2 rfl) ?_
        obtain ⟨r3, hc2, h⟩ := vz_b h
        refine za_callR (va_runSN (As := [.long x3, .int x7]) (rest := []) ⟨hx, hb, hml, hown, hts⟩ (k_X10_signAt l hc2) ⟨va_cnB 2 hts gX0_isFitting_X10_signAt_n64 rfl rfl rfl (nw_378 hK.2) hw4 zd_X10_signAt ⟨Nat.le_of_ble_eq_true rfl, Nat.le_of_ble_eq_true rfl⟩, hw3, trivial⟩ xPre0 rfl rfl hl.1 rfl (lv_room (Nat.le_of_ble_eq_true rfl)) dX0_isFitting_34 ⟨Nat.zero_le _, Nat.zero_le _⟩) ?_
        refine lv_istore (lv' := [(8, .int r3), (3, .long x3), (5, .long x5), (7, .int x7)]) hx hb dX0_isFitting_37 hl (by decide) rfl (fun ls hl => ?_)
        refine lv_lload hx hb dX0_isFitting_39 (lv_at hl 2 rfl) ?_
        refine lv_iload hx hb dX0_isFitting_41 (lv_at hl 3 rfl) ?_
        obtain ⟨r5, hc4, h⟩ := vz_b h
        refine za_callR (va_runSN (As := [.long x5, .int x7]) (rest := []) ⟨hx, hb, hml, hown, hts⟩ (k_X10_signAt l hc4) ⟨va_cnB 2 hts gX0_isFitting_X10_signAt_n64 rfl rfl rfl (nw_378 hK.2) hw4 zd_X10_signAt ⟨Nat.le_of_ble_eq_true rfl, Nat.le_of_ble_eq_true rfl⟩, hw3, trivial⟩ xPre0 rfl rfl hl.1 rfl (lv_room (Nat.le_of_ble_eq_true rfl)) dX0_isFitting_43 ⟨Nat.zero_le _, Nat.zero_le _⟩) ?_
        refine lv_istore (lv' := [(9, .int r5), (8, .int r3), (3, .long x3), (5, .long x5), (7, .int x7)]) hx hb dX0_isFitting_46 hl (by decide) rfl (fun ls hl => ?_)
        refine lv_iload hx hb dX0_isFitting_48 (lv_at hl 1 rfl) ?_
        refine lv_bipush (v := (28 : Int32)) hx hb dX0_isFitting_50 (by decide) ?_
        refine lv_icmp_ne (tgt := 57) hx hb dX0_isFitting_52 (by decide) (fun c6 => ?_) (fun c6 => ?_)
        · have h := vz_f c6 h
          refine lv_iload hx hb dX0_isFitting_57 (lv_at hl 1 rfl) ?_
          refine lv_if_eq (tgt := 67) hx hb dX0_isFitting_59 (by decide) (fun c7 => ?_) (fun c7 => ?_)
          · have h := vz_t c7 h
            refine lv_iload hx hb dX0_isFitting_67 (lv_at hl 1 rfl) ?_
            refine lv_iload hx hb dX0_isFitting_69 (lv_at hl 0 rfl) ?_
            refine lv_icmp_ne (tgt := 78) hx hb dX0_isFitting_71 (by decide) (fun c8 => ?_) (fun c8 => ?_)
            · have h := vz_f c8 h
              refine lv_iconst (v := (0 : Int32)) hx hb dX0_isFitting_78 (by decide) ?_
              cases h
              have e9 := hret _ rfl
              cases e9
              exact W.zret hx hb hr nb0 (fun t ht _ => ⟨rfl, ht⟩) (fun q hq => absurd hq List.not_mem_nil) dX0_isFitting_79
            · have h := vz_t c8 h
              refine lv_iconst (v := (1 : Int32)) hx hb dX0_isFitting_74 (by decide) ?_
              refine lv_goto (tgt := 79) hx hb dX0_isFitting_75 (by decide) ?_
              cases h
              have e9 := hret _ rfl
              cases e9
              exact W.zret hx hb hr nb1 (fun t ht _ => ⟨rfl, ht⟩) (fun q hq => absurd hq List.not_mem_nil) dX0_isFitting_79
          · have h := vz_f c7 h
            refine lv_iload hx hb dX0_isFitting_62 (lv_at hl 0 rfl) ?_
            refine lv_if_ne (tgt := 80) hx hb dX0_isFitting_64 (by decide) (fun c9 => ?_) (fun c9 => ?_)
            · have h := vz_f c9 h
              refine lv_iload hx hb dX0_isFitting_80 (lv_at hl 1 rfl) ?_
              refine lv_bipush (v := (27 : Int32)) hx hb dX0_isFitting_82 (by decide) ?_
              refine lv_icmp_eq (tgt := 96) hx hb dX0_isFitting_84 (by decide) (fun c10 => ?_) (fun c10 => ?_)
              · have h := vz_t c10 h
                refine lv_iinc (v := (x7 + 1)) (lv' := [(7, .int (x7 + 1)), (9, .int r5), (8, .int r3), (3, .long x3), (5, .long x5)]) hx hb dX0_isFitting_96 hl (k := 4) rfl rfl (by decide) rfl (fun ls hl => ?_)
                refine lv_goto (tgt := 24) hx hb dX0_isFitting_99 (by decide) ?_
                exact ih (x7 + 1) ls o h (lv_sub hl [3, 4, 0] rfl) hret hk
              · have h := vz_f c10 h
                refine lv_iload hx hb dX0_isFitting_87 (lv_at hl 1 rfl) ?_
                refine lv_iload hx hb dX0_isFitting_89 (lv_at hl 0 rfl) ?_
                refine lv_icmp_eq (tgt := 96) hx hb dX0_isFitting_91 (by decide) (fun c11 => ?_) (fun c11 => ?_)
                · have h := vz_t c11 h
                  refine lv_iinc (v := (x7 + 1)) (lv' := [(7, .int (x7 + 1)), (9, .int r5), (8, .int r3), (3, .long x3), (5, .long x5)]) hx hb dX0_isFitting_96 hl (k := 4) rfl rfl (by decide) rfl (fun ls hl => ?_)
                  refine lv_goto (tgt := 24) hx hb dX0_isFitting_99 (by decide) ?_
                  exact ih (x7 + 1) ls o h (lv_sub hl [3, 4, 0] rfl) hret hk
                · have h := vz_f c11 h
                  refine lv_iconst (v := (0 : Int32)) hx hb dX0_isFitting_94 (by decide) ?_
                  cases h
                  have e9 := hret _ rfl
                  cases e9
                  exact W.zret hx hb hr nb0 (fun t ht _ => ⟨rfl, ht⟩) (fun q hq => absurd hq List.not_mem_nil) dX0_isFitting_95
            · have h := vz_t c9 h
              refine lv_iload hx hb dX0_isFitting_67 (lv_at hl 1 rfl) ?_
              refine lv_iload hx hb dX0_isFitting_69 (lv_at hl 0 rfl) ?_
              refine lv_icmp_ne (tgt := 78) hx hb dX0_isFitting_71 (by decide) (fun c12 => ?_) (fun c12 => ?_)
              · have h := vz_f c12 h
                refine lv_iconst (v := (0 : Int32)) hx hb dX0_isFitting_78 (by decide) ?_
                cases h
                have e9 := hret _ rfl
                cases e9
                exact W.zret hx hb hr nb0 (fun t ht _ => ⟨rfl, ht⟩) (fun q hq => absurd hq List.not_mem_nil) dX0_isFitting_79
              · have h := vz_t c12 h
                refine lv_iconst (v := (1 : Int32)) hx hb dX0_isFitting_74 (by decide) ?_
                refine lv_goto (tgt := 79) hx hb dX0_isFitting_75 (by decide) ?_
                cases h
                have e9 := hret _ rfl
                cases e9
                exact W.zret hx hb hr nb1 (fun t ht _ => ⟨rfl, ht⟩) (fun q hq => absurd hq List.not_mem_nil) dX0_isFitting_79
        · have h := vz_t c6 h
          refine lv_iconst (v := (1 : Int32)) hx hb dX0_isFitting_55 (by decide) ?_
          cases h
          have e9 := hret _ rfl
          cases e9
          exact W.zret hx hb hr nb1 (fun t ht _ => ⟨rfl, ht⟩) (fun q hq => absurd hq List.not_mem_nil) dX0_isFitting_56
  rw [pX0_isFitting] at h
  refine lv_aload_n hx hb dX0_isFitting_0 rfl (lv_at hl 0 rfl) ?_
  refine za_getr (k := 1) hx hb hts hin0 hown hK hP zF_2_1 rfl (Nat.le_of_ble_eq_true rfl) (Or.inl hw1) dX0_isFitting_1 ?_
  refine za_getr (k := 1) hx hb hts hin8 hown hK hP zF_7_1 rfl (Nat.le_of_ble_eq_true rfl) (nw_82 hK.2) dX0_isFitting_4 ?_
  refine lv_iload_n hx hb dX0_isFitting_7 rfl (lv_at hl 1 rfl) ?_
  obtain ⟨g13, h⟩ := gd_s h
  refine za_lld hx hb hK hP zJ_8 g13 dX0_isFitting_8 ?_
  refine lv_lstore_n (lv' := [(3, .long (v 1 a1.toNatClampNeg)), (0, .ref (ad 2)), (1, .int a1), (2, .int a2)]) hx hb dX0_isFitting_9 rfl hl (by decide) rfl (fun ls hl => ?_)
  refine lv_aload_n hx hb dX0_isFitting_10 rfl (lv_at hl 1 rfl) ?_
  refine za_getr (k := 3) hx hb hts hin0 hown hK hP zF_2_3 rfl (Nat.le_of_ble_eq_true rfl) (Or.inl hw2) dX0_isFitting_11 ?_
  refine za_getr (k := 1) hx hb hts hin1 hown hK hP zF_14_1 rfl (Nat.le_of_ble_eq_true rfl) (nw_129 hK.2) dX0_isFitting_14 ?_
  refine lv_iload_n hx hb dX0_isFitting_17 rfl (lv_at hl 3 rfl) ?_
  obtain ⟨g14, h⟩ := gd_s h
  refine za_lld hx hb hK hP zJ_15 g14 dX0_isFitting_18 ?_
  refine lv_lstore (lv' := [(5, .long (v 2 a2.toNatClampNeg)), (3, .long (v 1 a1.toNatClampNeg)), (0, .ref (ad 2)), (1, .int a1), (2, .int a2)]) hx hb dX0_isFitting_19 hl (by decide) rfl (fun ls hl => ?_)
  refine lv_iconst (v := (0 : Int32)) hx hb dX0_isFitting_21 (by decide) ?_
  refine lv_istore (lv' := [(7, .int (0 : Int32)), (5, .long (v 2 a2.toNatClampNeg)), (3, .long (v 1 a1.toNatClampNeg)), (0, .ref (ad 2)), (1, .int a1), (2, .int a2)]) hx hb dX0_isFitting_22 hl (by decide) rfl (fun ls hl => ?_)
  obtain ⟨o15, hL16, h⟩ := vz_b h
  refine L24 (v 1 a1.toNatClampNeg) (v 2 a2.toNatClampNeg) fuel (0 : Int32) ls o15 hL16 (lv_sub hl [2, 1, 0] rfl) (fun rr e17 => by rw [e17] at h; exact Option.some.inj h) (fun ls e17 hl => ?_)
  try rw [e17] at h
  try dsimp only at h
  refine lv_iconst (v := (1 : Int32)) hx hb dX0_isFitting_102 (by decide) ?_
  cases h
  exact W.zret hx hb hr nb1 (fun t ht _ => ⟨rfl, ht⟩) (fun q hq => absurd hq List.not_mem_nil) dX0_isFitting_103
abbrev rmX0_firstRuleOf : Room := { frames := 2, cells := 0, slots := 0, locals := 51 }
set_option maxHeartbeats 4000000 in
set_option maxRecDepth 100000 in
theorem k_X0_firstRuleOf (l : Launch) {D : va_G} {cI cJ : ClassId} {ad : Nat → Nat} {u : tU} {v : tV} {a1 : Int32}  {r : Int32}  (h : pX0_firstRuleOf u v a1 = some r) : Met l yX0_firstRuleOf wsX0_firstRuleOf rmX0_firstRuleOf (va_Pc [.ref (ad 2), .int a1] (xPre D cI cJ (wA cI cJ ad u v))) (QcRead r) 0 0 (fun _ => False) := by
  refine Met.ofW (cc := cX0_firstRuleOf) (maxL := 5) (ret := (some .int)) (by decide) rfl ?_
  intro p e s m args below meth c s₁ B hml hv
  obtain ⟨rfl, hP, hK⟩ := hv
  have hx := B.exec
  have hb := B.bytes
  have hr := B.returns
  have hts := atoms_spec (ws := wsX0_firstRuleOf) B.pre
  have hown : s.vm.findClass RX0 = some m.cls := findClass_of_methodNamed B.named
  have hlocks := B.notSynchronized
  have hin0 : ∀ w ∈ u_ws RX0 TX0 8, w ∈ wsX0_firstRuleOf := fun _ h => List.mem_cons_of_mem _ (List.mem_append_left _ (List.mem_append_left _ (List.mem_append_right _ h)))
  have hin8 : ∀ w ∈ u_ws RX8 TX8 4, w ∈ wsX0_firstRuleOf := fun _ h => List.mem_cons_of_mem _ (List.mem_append_left _ (List.mem_append_right _ h))
  have hw1 := hts (.fieldLink RX0 21 "InstallDesk$Books" "rules" "LInstallDesk$Rules;") (List.mem_of_getElem? (i := 1) rfl)
  have hl := lv_entry ([.ref (ad 2), .int a1]) (n := 5) (Nat.le_of_ble_eq_true rfl)
  rw [lg_entry_eq]
  generalize (lg_sl ([.ref (ad 2), .int a1]) ++ List.replicate (5 - (lg_sl ([.ref (ad 2), .int a1])).length) Slot.unset).toArray = ls at hl ⊢
  have hl : lv_has ls 5 [(0, .ref (ad 2)), (1, .int a1)] := hl
  have L5 : ∀ (x1 : Int32) (n : Nat) (x2 : Int32) (x3 : Int32) (ls : Array Slot) (o : Int32), pX0_firstRuleOf_L5 u v x1 n x2 x3 = some o → lv_has ls 5 [(0, .ref (ad 2)), (1, .int x1), (2, .int x2), (3, .int x3)] → (∀ (y2 : Int32) (ls : Array Slot), o = y2 → lv_has ls 5 [(2, .int y2)] → W p l e (headSpec wsX0_firstRuleOf rmX0_firstRuleOf).room s m [Value.ref (ad 2), Value.int a1].toArray below meth c s.heap [] 0 0 (MQ below (QcRead r) [Value.ref (ad 2), Value.int a1].toArray s 0 0 (fun _ => False)) (F0 m 70 ls [])) → W p l e (headSpec wsX0_firstRuleOf rmX0_firstRuleOf).room s m [Value.ref (ad 2), Value.int a1].toArray below meth c s.heap [] 0 0 (MQ below (QcRead r) [Value.ref (ad 2), Value.int a1].toArray s 0 0 (fun _ => False)) (F0 m 5 ls []) := by
    intro x1 n
    induction n with
    | zero => intro x2 x3 ls o h; cases h
    | succ n ih =>
      intro x2 x3 ls o h hl hk
      rw [pX0_firstRuleOf_L5] at h
      refine lv_iload_n hx hb dX0_firstRuleOf_5 rfl (lv_at hl 3 rfl) ?_
      refine lv_aload_n hx hb dX0_firstRuleOf_6 rfl (lv_at hl 0 rfl) ?_
      refine za_getr (k := 1) hx hb hts hin0 hown hK hP zF_2_1 rfl (Nat.le_of_ble_eq_true rfl) (Or.inl hw1) dX0_firstRuleOf_7 ?_
      refine za_geti (k := 0) hx hb hts hin8 hown hK hP zF_7_0 rfl (Nat.le_of_ble_eq_true rfl) (nw_79 hK.2) dX0_firstRuleOf_10 ?_
      refine lv_icmp_ge (tgt := 70) hx hb dX0_firstRuleOf_13 (by decide) (fun c1 => ?_) (fun c1 => ?_)
      · have h := vz_t c1 h
        cases h
        exact hk x2 ls rfl (lv_sub hl [2] rfl)
      · have h := vz_f c1 h
        refine lv_iload_n hx hb dX0_firstRuleOf_16 rfl (lv_at hl 2 rfl) ?_
        refine lv_if_lt (tgt := 41) hx hb dX0_firstRuleOf_17 (by decide) (fun c2 => ?_) (fun c2 => ?_)
        · have h := vz_t c2 h
          refine lv_iconst (v := (1 : Int32)) hx hb dX0_firstRuleOf_41 (by decide) ?_
          refine lv_goto (tgt := 46) hx hb dX0_firstRuleOf_42 (by decide) ?_
          refine lv_istore (lv' := [(4, .int (1 : Int32)), (0, .ref (ad 2)), (1, .int x1), (2, .int x2), (3, .int x3)]) hx hb dX0_firstRuleOf_46 hl (by decide) rfl (fun ls hl => ?_)
          refine lv_iload hx hb dX0_firstRuleOf_48 (lv_at hl 0 rfl) ?_
          refine lv_if_eq (tgt := 64) hx hb dX0_firstRuleOf_50 (by decide) (fun c3 => ?_) (fun c3 => ?_)
          · exact absurd c3 (by decide)
          refine lv_aload_n hx hb dX0_firstRuleOf_53 rfl (lv_at hl 1 rfl) ?_
          refine lv_iload_n hx hb dX0_firstRuleOf_54 rfl (lv_at hl 4 rfl) ?_
          refine lv_iload_n hx hb dX0_firstRuleOf_55 rfl (lv_at hl 2 rfl) ?_
          obtain ⟨r5, hc4, h⟩ := vz_b h
          refine za_callR (va_runV (As := [.int x3, .int x1]) (rest := []) ⟨hx, hb, hml, hown, hts⟩ (k_X0_isFitting l (D := D) (cI := cI) (cJ := cJ) (ad := ad) hc4) (cwV 2 hts gX0_firstRuleOf_X0_isFitting rfl rfl rfl ⟨rfl, zd_X0_isFitting⟩ ⟨Nat.le_of_ble_eq_true rfl, Nat.le_of_ble_eq_true rfl⟩) (xPreV (ci := 0) hK hP rfl zO_2) rfl rfl hl.1 rfl (lv_room (Nat.le_of_ble_eq_true rfl)) dX0_firstRuleOf_56 ⟨Nat.zero_le _, Nat.zero_le _⟩) ?_
          refine lv_if_eq (tgt := 64) hx hb dX0_firstRuleOf_59 (by decide) (fun c6 => ?_) (fun c6 => ?_)
          · have h := vz_t c6 h
            refine lv_iinc (v := (x3 + 1)) (lv' := [(3, .int (x3 + 1)), (4, .int (1 : Int32)), (0, .ref (ad 2)), (1, .int x1), (2, .int x2)]) hx hb dX0_firstRuleOf_64 hl (k := 4) rfl rfl (by decide) rfl (fun ls hl => ?_)
            refine lv_goto (tgt := 5) hx hb dX0_firstRuleOf_67 (by decide) ?_
            exact ih x2 (x3 + 1) ls o h (lv_sub hl [2, 3, 4, 0] rfl) hk
          · have h := vz_f c6 h
            refine lv_iload_n hx hb dX0_firstRuleOf_62 rfl (lv_at hl 4 rfl) ?_
            refine lv_istore_n (lv' := [(2, .int x3), (4, .int (1 : Int32)), (0, .ref (ad 2)), (1, .int x1), (3, .int x3)]) hx hb dX0_firstRuleOf_63 rfl hl (by decide) rfl (fun ls hl => ?_)
            refine lv_iinc (v := (x3 + 1)) (lv' := [(3, .int (x3 + 1)), (2, .int x3), (4, .int (1 : Int32)), (0, .ref (ad 2)), (1, .int x1)]) hx hb dX0_firstRuleOf_64 hl (k := 4) rfl rfl (by decide) rfl (fun ls hl => ?_)
            refine lv_goto (tgt := 5) hx hb dX0_firstRuleOf_67 (by decide) ?_
            exact ih x3 (x3 + 1) ls o h (lv_sub hl [3, 4, 1, 0] rfl) hk
        · have h := vz_f c2 h
          refine lv_aload_n hx hb dX0_firstRuleOf_20 rfl (lv_at hl 0 rfl) ?_
          refine za_getr (k := 1) hx hb hts hin0 hown hK hP zF_2_1 rfl (Nat.le_of_ble_eq_true rfl) (Or.inl hw1) dX0_firstRuleOf_21 ?_
          refine za_getr (k := 2) hx hb hts hin8 hown hK hP zF_7_2 rfl (Nat.le_of_ble_eq_true rfl) (nw_84 hK.2) dX0_firstRuleOf_24 ?_
          refine lv_iload_n hx hb dX0_firstRuleOf_27 rfl (lv_at hl 3 rfl) ?_
          obtain ⟨g7, h⟩ := gd_s h
          refine za_ild hx hb hK hP zI_9 g7 dX0_firstRuleOf_28 ?_
          refine lv_aload_n hx hb dX0_firstRuleOf_29 rfl (lv_at hl 0 rfl) ?_
          refine za_getr (k := 1) hx hb hts hin0 hown hK hP zF_2_1 rfl (Nat.le_of_ble_eq_true rfl) (Or.inl hw1) dX0_firstRuleOf_30 ?_
          refine za_getr (k := 2) hx hb hts hin8 hown hK hP zF_7_2 rfl (Nat.le_of_ble_eq_true rfl) (nw_84 hK.2) dX0_firstRuleOf_33 ?_
          refine lv_iload_n hx hb dX0_firstRuleOf_36 rfl (lv_at hl 2 rfl) ?_
          obtain ⟨g8, h⟩ := gd_s h
          refine za_ild hx hb hK hP zI_9 g8 dX0_firstRuleOf_37 ?_
          refine lv_icmp_ge (tgt := 45) hx hb dX0_firstRuleOf_38 (by decide) (fun c9 => ?_) (fun c9 => ?_)
          · have h := vz_t c9 h
            refine lv_iconst (v := (0 : Int32)) hx hb dX0_firstRuleOf_45 (by decide) ?_
            refine lv_istore (lv' := [(4, .int (0 : Int32)), (0, .ref (ad 2)), (1, .int x1), (2, .int x2), (3, .int x3)]) hx hb dX0_firstRuleOf_46 hl (by decide) rfl (fun ls hl => ?_)
            refine lv_iload hx hb dX0_firstRuleOf_48 (lv_at hl 0 rfl) ?_
            refine lv_if_eq (tgt := 64) hx hb dX0_firstRuleOf_50 (by decide) (fun c10 => ?_) (fun c10 => ?_)
            rotate_left
            · exact absurd c10 (by decide)
            refine lv_iinc (v := (x3 + 1)) (lv' := [(3, .int (x3 + 1)), (4, .int (0 : Int32)), (0, .ref (ad 2)), (1, .int x1), (2, .int x2)]) hx hb dX0_firstRuleOf_64 hl (k := 4) rfl rfl (by decide) rfl (fun ls hl => ?_)
            refine lv_goto (tgt := 5) hx hb dX0_firstRuleOf_67 (by decide) ?_
            exact ih x2 (x3 + 1) ls o h (lv_sub hl [2, 3, 4, 0] rfl) hk
          · have h := vz_f c9 h
            refine lv_iconst (v := (1 : Int32)) hx hb dX0_firstRuleOf_41 (by decide) ?_
            refine lv_goto (tgt := 46) hx hb dX0_firstRuleOf_42 (by decide) ?_
            refine lv_istore (lv' := [(4, .int (1 : Int32)), (0, .ref (ad 2)), (1, .int x1), (2, .int x2), (3, .int x3)]) hx hb dX0_firstRuleOf_46 hl (by decide) rfl (fun ls hl => ?_)
            refine lv_iload hx hb dX0_firstRuleOf_48 (lv_at hl 0 rfl) ?_
            refine lv_if_eq (tgt := 64) hx hb dX0_firstRuleOf_50 (by decide) (fun c11 => ?_) (fun c11 => ?_)
            · exact absurd c11 (by decide)
            refine lv_aload_n hx hb dX0_firstRuleOf_53 rfl (lv_at hl 1 rfl) ?_
            refine lv_iload_n hx hb dX0_firstRuleOf_54 rfl (lv_at hl 4 rfl) ?_
            refine lv_iload_n hx hb dX0_firstRuleOf_55 rfl (lv_at hl 2 rfl) ?_
            obtain ⟨r13, hc12, h⟩ := vz_b h
            refine za_callR (va_runV (As := [.int x3, .int x1]) (rest := []) ⟨hx, hb, hml, hown, hts⟩ (k_X0_isFitting l (D := D) (cI := cI) (cJ := cJ) (ad := ad) hc12) (cwV 2 hts gX0_firstRuleOf_X0_isFitting rfl rfl rfl ⟨rfl, zd_X0_isFitting⟩ ⟨Nat.le_of_ble_eq_true rfl, Nat.le_of_ble_eq_true rfl⟩) (xPreV (ci := 0) hK hP rfl zO_2) rfl rfl hl.1 rfl (lv_room (Nat.le_of_ble_eq_true rfl)) dX0_firstRuleOf_56 ⟨Nat.zero_le _, Nat.zero_le _⟩) ?_
            refine lv_if_eq (tgt := 64) hx hb dX0_firstRuleOf_59 (by decide) (fun c14 => ?_) (fun c14 => ?_)
            · have h := vz_t c14 h
              refine lv_iinc (v := (x3 + 1)) (lv' := [(3, .int (x3 + 1)), (4, .int (1 : Int32)), (0, .ref (ad 2)), (1, .int x1), (2, .int x2)]) hx hb dX0_firstRuleOf_64 hl (k := 4) rfl rfl (by decide) rfl (fun ls hl => ?_)
              refine lv_goto (tgt := 5) hx hb dX0_firstRuleOf_67 (by decide) ?_
              exact ih x2 (x3 + 1) ls o h (lv_sub hl [2, 3, 4, 0] rfl) hk
            · have h := vz_f c14 h
              refine lv_iload_n hx hb dX0_firstRuleOf_62 rfl (lv_at hl 4 rfl) ?_
              refine lv_istore_n (lv' := [(2, .int x3), (4, .int (1 : Int32)), (0, .ref (ad 2)), (1, .int x1), (3, .int x3)]) hx hb dX0_firstRuleOf_63 rfl hl (by decide) rfl (fun ls hl => ?_)
              refine lv_iinc (v := (x3 + 1)) (lv' := [(3, .int (x3 + 1)), (2, .int x3), (4, .int (1 : Int32)), (0, .ref (ad 2)), (1, .int x1)]) hx hb dX0_firstRuleOf_64 hl (k := 4) rfl rfl (by decide) rfl (fun ls hl => ?_)
              refine lv_goto (tgt := 5) hx hb dX0_firstRuleOf_67 (by decide) ?_
              exact ih x3 (x3 + 1) ls o h (lv_sub hl [3, 4, 1, 0] rfl) hk
  rw [pX0_firstRuleOf] at h
  refine lv_bipush (v := (-6 : Int32)) hx hb dX0_firstRuleOf_0 (by decide) ?_
  refine lv_istore_n (lv' := [(2, .int (-6 : Int32)), (0, .ref (ad 2)), (1, .int a1)]) hx hb dX0_firstRuleOf_2 rfl hl (by decide) rfl (fun ls hl => ?_)
  refine lv_iconst (v := (0 : Int32)) hx hb dX0_firstRuleOf_3 (by decide) ?_
  refine lv_istore_n (lv' := [(3, .int (0 : Int32)), (2, .int (-6 : Int32)), (0, .ref (ad 2)), (1, .int a1)]) hx hb dX0_firstRuleOf_4 rfl hl (by decide) rfl (fun ls hl => ?_)
  obtain ⟨o15, hL16, h⟩ := vz_b h
  refine L5 a1 fuel (-6 : Int32) (0 : Int32) ls o15 hL16 (lv_sub hl [2, 3, 1, 0] rfl) (fun y18 ls e17 hl => ?_)
  try rw [e17] at h
  try dsimp only at h
  refine lv_iload_n hx hb dX0_firstRuleOf_70 rfl (lv_at hl 0 rfl) ?_
  cases h
  exact W.iret hx hb hr (fun t ht _ => ⟨rfl, ht⟩) (fun q hq => absurd hq List.not_mem_nil) dX0_firstRuleOf_71
abbrev rmX0_goalOf : Room := { frames := 3, cells := 0, slots := 0, locals := 75 }
set_option maxHeartbeats 4000000 in
set_option maxRecDepth 100000 in
theorem k_X0_goalOf (l : Launch) {D : va_G} {cI cJ : ClassId} {ad : Nat → Nat} {u : tU} {v : tV} {a1 : Int32}  {r : Int32}  (h : pX0_goalOf u v a1 = some r) : Met l yX0_goalOf wsX0_goalOf rmX0_goalOf (va_Pc [.ref (ad 2), .int a1] (xPre D cI cJ (wA cI cJ ad u v))) (QcRead r) 0 0 (fun _ => False) := by
  refine Met.ofW (cc := cX0_goalOf) (maxL := 5) (ret := (some .int)) (by decide) rfl ?_
  intro p e s m args below meth c s₁ B hml hv
  obtain ⟨rfl, hP, hK⟩ := hv
  have hx := B.exec
  have hb := B.bytes
  have hr := B.returns
  have hts := atoms_spec (ws := wsX0_goalOf) B.pre
  have hown : s.vm.findClass RX0 = some m.cls := findClass_of_methodNamed B.named
  have hlocks := B.notSynchronized
  have hin0 : ∀ w ∈ u_ws RX0 TX0 8, w ∈ wsX0_goalOf := fun _ h => List.mem_cons_of_mem _ (List.mem_append_left _ (List.mem_append_left _ (List.mem_append_right _ h)))
  have hin8 : ∀ w ∈ u_ws RX8 TX8 4, w ∈ wsX0_goalOf := fun _ h => List.mem_cons_of_mem _ (List.mem_append_left _ (List.mem_append_right _ h))
  have hw1 := hts (.fieldLink RX0 21 "InstallDesk$Books" "rules" "LInstallDesk$Rules;") (List.mem_of_getElem? (i := 1) rfl)
  have hl := lv_entry ([.ref (ad 2), .int a1]) (n := 5) (Nat.le_of_ble_eq_true rfl)
  rw [lg_entry_eq]
  generalize (lg_sl ([.ref (ad 2), .int a1]) ++ List.replicate (5 - (lg_sl ([.ref (ad 2), .int a1])).length) Slot.unset).toArray = ls at hl ⊢
  have hl : lv_has ls 5 [(0, .ref (ad 2)), (1, .int a1)] := hl
  have L17 : ∀ (x1 : Int32) (x2 : Int32) (n : Nat) (x3 : Int32) (ls : Array Slot) (o : (Int32) ⊕ (Unit)), pX0_goalOf_L17 u v x1 x2 n x3 = some o → lv_has ls 5 [(0, .ref (ad 2)), (1, .int x1), (2, .int x2), (3, .int x3)] → (∀ rr : Int32, o = .inl rr → rr = r) → (∀ (ls : Array Slot), o = .inr () → lv_has ls 5 [(0, .ref (ad 2)), (2, .int x2)] → W p l e (headSpec wsX0_goalOf rmX0_goalOf).room s m [Value.ref (ad 2), Value.int a1].toArray below meth c s.heap [] 0 0 (MQ below (QcRead r) [Value.ref (ad 2), Value.int a1].toArray s 0 0 (fun _ => False)) (F0 m 100 ls [])) → W p l e (headSpec wsX0_goalOf rmX0_goalOf).room s m [Value.ref (ad 2), Value.int a1].toArray below meth c s.heap [] 0 0 (MQ below (QcRead r) [Value.ref (ad 2), Value.int a1].toArray s 0 0 (fun _ => False)) (F0 m 17 ls []) := by
    intro x1 x2 n
    induction n with
    | zero => intro x3 ls o h; cases h
    | succ n ih =>
      intro x3 ls o h hl hret hk
      rw [pX0_goalOf_L17] at h
      refine lv_iload_n hx hb dX0_goalOf_17 rfl (lv_at hl 3 rfl) ?_
      refine lv_aload_n hx hb dX0_goalOf_18 rfl (lv_at hl 0 rfl) ?_
      refine za_getr (k := 1) hx hb hts hin0 hown hK hP zF_2_1 rfl (Nat.le_of_ble_eq_true rfl) (Or.inl hw1) dX0_goalOf_19 ?_
      refine za_geti (k := 0) hx hb hts hin8 hown hK hP zF_7_0 rfl (Nat.le_of_ble_eq_true rfl) (nw_79 hK.2) dX0_goalOf_22 ?_
      refine lv_icmp_ge (tgt := 100) hx hb dX0_goalOf_25 (by decide) (fun c1 => ?_) (fun c1 => ?_)
      · have h := vz_t c1 h
        cases h
        exact hk ls rfl (lv_sub hl [0, 2] rfl)
      · have h := vz_f c1 h
        refine lv_aload_n hx hb dX0_goalOf_28 rfl (lv_at hl 0 rfl) ?_
        refine za_getr (k := 1) hx hb hts hin0 hown hK hP zF_2_1 rfl (Nat.le_of_ble_eq_true rfl) (Or.inl hw1) dX0_goalOf_29 ?_
        refine za_getr (k := 2) hx hb hts hin8 hown hK hP zF_7_2 rfl (Nat.le_of_ble_eq_true rfl) (nw_84 hK.2) dX0_goalOf_32 ?_
        refine lv_iload_n hx hb dX0_goalOf_35 rfl (lv_at hl 3 rfl) ?_
        obtain ⟨g2, h⟩ := gd_s h
        refine za_ild hx hb hK hP zI_9 g2 dX0_goalOf_36 ?_
        refine lv_aload_n hx hb dX0_goalOf_37 rfl (lv_at hl 0 rfl) ?_
        refine za_getr (k := 1) hx hb hts hin0 hown hK hP zF_2_1 rfl (Nat.le_of_ble_eq_true rfl) (Or.inl hw1) dX0_goalOf_38 ?_
        refine za_getr (k := 2) hx hb hts hin8 hown hK hP zF_7_2 rfl (Nat.le_of_ble_eq_true rfl) (nw_84 hK.2) dX0_goalOf_41 ?_
        refine lv_iload_n hx hb dX0_goalOf_44 rfl (lv_at hl 2 rfl) ?_
        obtain ⟨g3, h⟩ := gd_s h
        refine za_ild hx hb hK hP zI_9 g3 dX0_goalOf_45 ?_
        refine lv_icmp_ne (tgt := 74) hx hb dX0_goalOf_46 (by decide) (fun c4 => ?_) (fun c4 => ?_)
        · have h := vz_f c4 h
          refine lv_iconst (v := (0 : Int32)) hx hb dX0_goalOf_74 (by decide) ?_
          refine lv_istore (lv' := [(4, .int (0 : Int32)), (0, .ref (ad 2)), (1, .int x1), (2, .int x2), (3, .int x3)]) hx hb dX0_goalOf_75 hl (by decide) rfl (fun ls hl => ?_)
          refine lv_iload hx hb dX0_goalOf_77 (lv_at hl 0 rfl) ?_
          refine lv_if_eq (tgt := 94) hx hb dX0_goalOf_79 (by decide) (fun c5 => ?_) (fun c5 => ?_)
          rotate_left
          · exact absurd c5 (by decide)
          refine lv_iinc (v := (x3 + 1)) (lv' := [(3, .int (x3 + 1)), (4, .int (0 : Int32)), (0, .ref (ad 2)), (1, .int x1), (2, .int x2)]) hx hb dX0_goalOf_94 hl (k := 4) rfl rfl (by decide) rfl (fun ls hl => ?_)
          refine lv_goto (tgt := 17) hx hb dX0_goalOf_97 (by decide) ?_
          exact ih (x3 + 1) ls o h (lv_sub hl [2, 3, 4, 0] rfl) hret hk
        · have h := vz_t c4 h
          refine lv_aload_n hx hb dX0_goalOf_49 rfl (lv_at hl 0 rfl) ?_
          refine za_getr (k := 1) hx hb hts hin0 hown hK hP zF_2_1 rfl (Nat.le_of_ble_eq_true rfl) (Or.inl hw1) dX0_goalOf_50 ?_
          refine za_getr (k := 3) hx hb hts hin8 hown hK hP zF_7_3 rfl (Nat.le_of_ble_eq_true rfl) (nw_86 hK.2) dX0_goalOf_53 ?_
          refine lv_iload_n hx hb dX0_goalOf_56 rfl (lv_at hl 3 rfl) ?_
          obtain ⟨g6, h⟩ := gd_s h
          refine za_ild hx hb hK hP zI_10 g6 dX0_goalOf_57 ?_
          refine lv_aload_n hx hb dX0_goalOf_58 rfl (lv_at hl 0 rfl) ?_
          refine za_getr (k := 1) hx hb hts hin0 hown hK hP zF_2_1 rfl (Nat.le_of_ble_eq_true rfl) (Or.inl hw1) dX0_goalOf_59 ?_
          refine za_getr (k := 3) hx hb hts hin8 hown hK hP zF_7_3 rfl (Nat.le_of_ble_eq_true rfl) (nw_86 hK.2) dX0_goalOf_62 ?_
          refine lv_iload_n hx hb dX0_goalOf_65 rfl (lv_at hl 2 rfl) ?_
          obtain ⟨g7, h⟩ := gd_s h
          refine za_ild hx hb hK hP zI_10 g7 dX0_goalOf_66 ?_
          refine lv_icmp_eq (tgt := 74) hx hb dX0_goalOf_67 (by decide) (fun c8 => ?_) (fun c8 => ?_)
          · have h := vz_t c8 h
            refine lv_iconst (v := (0 : Int32)) hx hb dX0_goalOf_74 (by decide) ?_
            refine lv_istore (lv' := [(4, .int (0 : Int32)), (0, .ref (ad 2)), (1, .int x1), (2, .int x2), (3, .int x3)]) hx hb dX0_goalOf_75 hl (by decide) rfl (fun ls hl => ?_)
            refine lv_iload hx hb dX0_goalOf_77 (lv_at hl 0 rfl) ?_
            refine lv_if_eq (tgt := 94) hx hb dX0_goalOf_79 (by decide) (fun c9 => ?_) (fun c9 => ?_)
            rotate_left
            · exact absurd c9 (by decide)
            refine lv_iinc (v := (x3 + 1)) (lv' := [(3, .int (x3 + 1)), (4, .int (0 : Int32)), (0, .ref (ad 2)), (1, .int x1), (2, .int x2)]) hx hb dX0_goalOf_94 hl (k := 4) rfl rfl (by decide) rfl (fun ls hl => ?_)
            refine lv_goto (tgt := 17) hx hb dX0_goalOf_97 (by decide) ?_
            exact ih (x3 + 1) ls o h (lv_sub hl [2, 3, 4, 0] rfl) hret hk
          · have h := vz_f c8 h
            refine lv_iconst (v := (1 : Int32)) hx hb dX0_goalOf_70 (by decide) ?_
            refine lv_goto (tgt := 75) hx hb dX0_goalOf_71 (by decide) ?_
            refine lv_istore (lv' := [(4, .int (1 : Int32)), (0, .ref (ad 2)), (1, .int x1), (2, .int x2), (3, .int x3)]) hx hb dX0_goalOf_75 hl (by decide) rfl (fun ls hl => ?_)
            refine lv_iload hx hb dX0_goalOf_77 (lv_at hl 0 rfl) ?_
            refine lv_if_eq (tgt := 94) hx hb dX0_goalOf_79 (by decide) (fun c10 => ?_) (fun c10 => ?_)
            · exact absurd c10 (by decide)
            refine lv_aload_n hx hb dX0_goalOf_82 rfl (lv_at hl 1 rfl) ?_
            refine lv_iload_n hx hb dX0_goalOf_83 rfl (lv_at hl 4 rfl) ?_
            refine lv_iload_n hx hb dX0_goalOf_84 rfl (lv_at hl 2 rfl) ?_
            obtain ⟨r12, hc11, h⟩ := vz_b h
            refine za_callR (va_runV (As := [.int x3, .int x1]) (rest := []) ⟨hx, hb, hml, hown, hts⟩ (k_X0_isFitting l (D := D) (cI := cI) (cJ := cJ) (ad := ad) hc11) (cwV 2 hts gX0_goalOf_X0_isFitting rfl rfl rfl ⟨rfl, zd_X0_isFitting⟩ ⟨Nat.le_of_ble_eq_true rfl, Nat.le_of_ble_eq_true rfl⟩) (xPreV (ci := 0) hK hP rfl zO_2) rfl rfl hl.1 rfl (lv_room (Nat.le_of_ble_eq_true rfl)) dX0_goalOf_85 ⟨Nat.zero_le _, Nat.zero_le _⟩) ?_
            refine lv_if_eq (tgt := 94) hx hb dX0_goalOf_88 (by decide) (fun c13 => ?_) (fun c13 => ?_)
            · have h := vz_t c13 h
              refine lv_iinc (v := (x3 + 1)) (lv' := [(3, .int (x3 + 1)), (4, .int (1 : Int32)), (0, .ref (ad 2)), (1, .int x1), (2, .int x2)]) hx hb dX0_goalOf_94 hl (k := 4) rfl rfl (by decide) rfl (fun ls hl => ?_)
              refine lv_goto (tgt := 17) hx hb dX0_goalOf_97 (by decide) ?_
              exact ih (x3 + 1) ls o h (lv_sub hl [2, 3, 4, 0] rfl) hret hk
            · have h := vz_f c13 h
              refine lv_bipush (v := (-5 : Int32)) hx hb dX0_goalOf_91 (by decide) ?_
              cases h
              have e9 := hret _ rfl
              cases e9
              exact W.iret hx hb hr (fun t ht _ => ⟨rfl, ht⟩) (fun q hq => absurd hq List.not_mem_nil) dX0_goalOf_93
  rw [pX0_goalOf] at h
  refine lv_aload_n hx hb dX0_goalOf_0 rfl (lv_at hl 0 rfl) ?_
  refine lv_iload_n hx hb dX0_goalOf_1 rfl (lv_at hl 1 rfl) ?_
  obtain ⟨r15, hc14, h⟩ := vz_b h
  refine za_callR (va_runV (As := [.int a1]) (rest := []) ⟨hx, hb, hml, hown, hts⟩ (k_X0_firstRuleOf l (D := D) (cI := cI) (cJ := cJ) (ad := ad) hc14) (cwV 1 hts gX0_goalOf_X0_firstRuleOf rfl rfl rfl ⟨rfl, zd_X0_firstRuleOf⟩ ⟨Nat.le_of_ble_eq_true rfl, Nat.le_of_ble_eq_true rfl⟩) (xPreV (ci := 0) hK hP rfl zO_2) rfl rfl hl.1 rfl (lv_room (Nat.le_of_ble_eq_true rfl)) dX0_goalOf_2 ⟨Nat.zero_le _, Nat.zero_le _⟩) ?_
  refine lv_istore_n (lv' := [(2, .int r15), (0, .ref (ad 2)), (1, .int a1)]) hx hb dX0_goalOf_5 rfl hl (by decide) rfl (fun ls hl => ?_)
  refine lv_iload_n hx hb dX0_goalOf_6 rfl (lv_at hl 0 rfl) ?_
  refine lv_if_ge (tgt := 13) hx hb dX0_goalOf_7 (by decide) (fun c16 => ?_) (fun c16 => ?_)
  · have h := vz_t c16 h
    refine lv_iload_n hx hb dX0_goalOf_13 rfl (lv_at hl 0 rfl) ?_
    refine lv_iconst (v := (1 : Int32)) hx hb dX0_goalOf_14 (by decide) ?_
    refine lv_iadd hx hb dX0_goalOf_15 ?_
    refine lv_istore_n (lv' := [(3, .int (r15 + (1 : Int32))), (2, .int r15), (0, .ref (ad 2)), (1, .int a1)]) hx hb dX0_goalOf_16 rfl hl (by decide) rfl (fun ls hl => ?_)
    obtain ⟨o17, hL18, h⟩ := vz_b h
    refine L17 a1 r15 fuel (r15 + (1 : Int32)) ls o17 hL18 (lv_sub hl [2, 3, 1, 0] rfl) (fun rr e19 => by rw [e19] at h; exact Option.some.inj h) (fun ls e19 hl => ?_)
    try rw [e19] at h
    try dsimp only at h
    refine lv_aload_n hx hb dX0_goalOf_100 rfl (lv_at hl 0 rfl) ?_
    refine za_getr (k := 1) hx hb hts hin0 hown hK hP zF_2_1 rfl (Nat.le_of_ble_eq_true rfl) (Or.inl hw1) dX0_goalOf_101 ?_
    refine za_getr (k := 3) hx hb hts hin8 hown hK hP zF_7_3 rfl (Nat.le_of_ble_eq_true rfl) (nw_86 hK.2) dX0_goalOf_104 ?_
    refine lv_iload_n hx hb dX0_goalOf_107 rfl (lv_at hl 1 rfl) ?_
    obtain ⟨g20, h⟩ := gd_s h
    refine za_ild hx hb hK hP zI_10 g20 dX0_goalOf_108 ?_
    cases h
    exact W.iret hx hb hr (fun t ht _ => ⟨rfl, ht⟩) (fun q hq => absurd hq List.not_mem_nil) dX0_goalOf_109
  · have h := vz_f c16 h
    refine lv_bipush (v := (-6 : Int32)) hx hb dX0_goalOf_10 (by decide) ?_
    cases h
    exact W.iret hx hb hr (fun t ht _ => ⟨rfl, ht⟩) (fun q hq => absurd hq List.not_mem_nil) dX0_goalOf_12
abbrev rmX10_isWithin : Room := { frames := 0, cells := 0, slots := 0, locals := 0 }
set_option maxHeartbeats 4000000 in
set_option maxRecDepth 100000 in
theorem k_X10_isWithin (l : Launch) {a0 : Int32} {a1 : Int32} {a2 : Int32}  {r : Int32}  (h : pX10_isWithin a0 a1 a2 = some r) : Met l yX10_isWithin wsX10_isWithin rmX10_isWithin (va_Pc [.int a0, .int a1, .int a2] (fun _ => True)) (QcRead r) 0 0 (fun _ => False) := by
  refine Met.ofW (cc := cX10_isWithin) (maxL := 3) (ret := (some .boolean)) (by decide) rfl ?_
  intro p e s m args below meth c s₁ B hml hv
  obtain ⟨rfl, -⟩ := hv
  have hx := B.exec
  have hb := B.bytes
  have hr := B.returns
  have hts := atoms_spec (ws := wsX10_isWithin) B.pre
  have hown : s.vm.findClass RX10 = some m.cls := findClass_of_methodNamed B.named
  have hlocks := B.notSynchronized
  have hl := lv_entry ([.int a0, .int a1, .int a2]) (n := 3) (Nat.le_of_ble_eq_true rfl)
  rw [lg_entry_eq]
  generalize (lg_sl ([.int a0, .int a1, .int a2]) ++ List.replicate (3 - (lg_sl ([.int a0, .int a1, .int a2])).length) Slot.unset).toArray = ls at hl ⊢
  have hl : lv_has ls 3 [(0, .int a0), (1, .int a1), (2, .int a2)] := hl
  rw [pX10_isWithin] at h
  refine lv_iload_n hx hb dX10_isWithin_0 rfl (lv_at hl 0 rfl) ?_
  refine lv_iload_n hx hb dX10_isWithin_1 rfl (lv_at hl 1 rfl) ?_
  refine lv_icmp_lt (tgt := 14) hx hb dX10_isWithin_2 (by decide) (fun c1 => ?_) (fun c1 => ?_)
  · have h := vz_t c1 h
    refine lv_iconst (v := (0 : Int32)) hx hb dX10_isWithin_14 (by decide) ?_
    cases h
    exact W.zret hx hb hr nb0 (fun t ht _ => ⟨rfl, ht⟩) (fun q hq => absurd hq List.not_mem_nil) dX10_isWithin_15
  · have h := vz_f c1 h
    refine lv_iload_n hx hb dX10_isWithin_5 rfl (lv_at hl 0 rfl) ?_
    refine lv_iload_n hx hb dX10_isWithin_6 rfl (lv_at hl 2 rfl) ?_
    refine lv_icmp_gt (tgt := 14) hx hb dX10_isWithin_7 (by decide) (fun c2 => ?_) (fun c2 => ?_)
    · have h := vz_t c2 h
      refine lv_iconst (v := (0 : Int32)) hx hb dX10_isWithin_14 (by decide) ?_
      cases h
      exact W.zret hx hb hr nb0 (fun t ht _ => ⟨rfl, ht⟩) (fun q hq => absurd hq List.not_mem_nil) dX10_isWithin_15
    · have h := vz_f c2 h
      refine lv_iconst (v := (1 : Int32)) hx hb dX10_isWithin_10 (by decide) ?_
      refine lv_goto (tgt := 15) hx hb dX10_isWithin_11 (by decide) ?_
      cases h
      exact W.zret hx hb hr nb1 (fun t ht _ => ⟨rfl, ht⟩) (fun q hq => absurd hq List.not_mem_nil) dX10_isWithin_15
abbrev rmX0_isInTime : Room := { frames := 1, cells := 0, slots := 0, locals := 22 }
set_option maxHeartbeats 4000000 in
set_option maxRecDepth 100000 in
theorem k_X0_isInTime (l : Launch) {D : va_G} {cI cJ : ClassId} {ad : Nat → Nat} {u : tU} {v : tV} {a1 : Int32}  {r : Int32}  (h : pX0_isInTime u v a1 = some r) : Met l yX0_isInTime wsX0_isInTime rmX0_isInTime (va_Pc [.ref (ad 2), .int a1] (xPre D cI cJ (wA cI cJ ad u v))) (QcRead r) 0 0 (fun _ => False) := by
  refine Met.ofW (cc := cX0_isInTime) (maxL := 2) (ret := (some .boolean)) (by decide) rfl ?_
  intro p e s m args below meth c s₁ B hml hv
  obtain ⟨rfl, hP, hK⟩ := hv
  have hx := B.exec
  have hb := B.bytes
  have hr := B.returns
  have hts := atoms_spec (ws := wsX0_isInTime) B.pre
  have hown : s.vm.findClass RX0 = some m.cls := findClass_of_methodNamed B.named
  have hlocks := B.notSynchronized
  have hin0 : ∀ w ∈ u_ws RX0 TX0 8, w ∈ wsX0_isInTime := fun _ h => List.mem_cons_of_mem _ (List.mem_append_left _ (List.mem_append_right _ h))
  have hin1 : ∀ w ∈ u_ws RX1 TX1 5, w ∈ wsX0_isInTime := fun _ h => List.mem_cons_of_mem _ (List.mem_append_right _ h)
  have hw1 := hts (.fieldLink RX0 35 "InstallDesk$Books" "finds" "LInstallDesk$Finds;") (List.mem_of_getElem? (i := 1) rfl)
  have hw2 := hts (.fieldLink RX0 88 "InstallDesk$Books" "dayNow" "I") (List.mem_of_getElem? (i := 2) rfl)
  have hw3 := hts (.fieldLink RX0 53 "InstallDesk$Books" "keptDays" "I") (List.mem_of_getElem? (i := 3) rfl)
  have hw4 := hts (.static yX10_isWithin) (List.mem_of_getElem? (i := 4) rfl)
  have hw5 := hts (.initialized RX10) (List.mem_of_getElem? (i := 5) rfl)
  have hl := lv_entry ([.ref (ad 2), .int a1]) (n := 2) (Nat.le_of_ble_eq_true rfl)
  rw [lg_entry_eq]
  generalize (lg_sl ([.ref (ad 2), .int a1]) ++ List.replicate (2 - (lg_sl ([.ref (ad 2), .int a1])).length) Slot.unset).toArray = ls at hl ⊢
  have hl : lv_has ls 2 [(0, .ref (ad 2)), (1, .int a1)] := hl
  rw [pX0_isInTime] at h
  refine lv_aload_n hx hb dX0_isInTime_0 rfl (lv_at hl 0 rfl) ?_
  refine za_getr (k := 3) hx hb hts hin0 hown hK hP zF_2_3 rfl (Nat.le_of_ble_eq_true rfl) (Or.inl hw1) dX0_isInTime_1 ?_
  refine za_getr (k := 3) hx hb hts hin1 hown hK hP zF_14_3 rfl (Nat.le_of_ble_eq_true rfl) (nw_133 hK.2) dX0_isInTime_4 ?_
  refine lv_iload_n hx hb dX0_isInTime_7 rfl (lv_at hl 1 rfl) ?_
  obtain ⟨g1, h⟩ := gd_s h
  refine za_ild hx hb hK hP zI_17 g1 dX0_isInTime_8 ?_
  refine lv_aload_n hx hb dX0_isInTime_9 rfl (lv_at hl 0 rfl) ?_
  refine za_geti (k := 6) hx hb hts hin0 hown hK hP zF_2_6 rfl (Nat.le_of_ble_eq_true rfl) (Or.inl hw2) dX0_isInTime_10 ?_
  refine lv_aload_n hx hb dX0_isInTime_13 rfl (lv_at hl 0 rfl) ?_
  refine za_geti (k := 7) hx hb hts hin0 hown hK hP zF_2_7 rfl (Nat.le_of_ble_eq_true rfl) (Or.inl hw3) dX0_isInTime_14 ?_
  refine lv_isub hx hb dX0_isInTime_17 ?_
  refine lv_aload_n hx hb dX0_isInTime_18 rfl (lv_at hl 0 rfl) ?_
  refine za_geti (k := 6) hx hb hts hin0 hown hK hP zF_2_6 rfl (Nat.le_of_ble_eq_true rfl) (Or.inl hw2) dX0_isInTime_19 ?_
  obtain ⟨r3, hc2, h⟩ := vz_b h
  refine za_callR (va_runSN (As := [.int (u 19 a1.toNatClampNeg), .int ((u 10 6) - (u 10 7)), .int (u 10 6)]) (rest := []) ⟨hx, hb, hml, hown, hts⟩ (k_X10_isWithin l hc2) ⟨va_cnB 3 hts gX0_isInTime_X10_isWithin_n91 rfl rfl rfl (nw_443 hK.2) hw5 zd_X10_isWithin ⟨Nat.le_of_ble_eq_true rfl, Nat.le_of_ble_eq_true rfl⟩, hw4, trivial⟩ xPre0 rfl rfl hl.1 rfl (lv_room (Nat.le_of_ble_eq_true rfl)) dX0_isInTime_22 ⟨Nat.zero_le _, Nat.zero_le _⟩) ?_
  obtain ⟨hn, h⟩ := gb_s h
  cases h
  exact W.zret hx hb hr hn (fun t ht _ => ⟨rfl, ht⟩) (fun q hq => absurd hq List.not_mem_nil) dX0_isInTime_25
abbrev rmX0_isCounted : Room := { frames := 4, cells := 0, slots := 0, locals := 99 }
set_option maxHeartbeats 4000000 in
set_option maxRecDepth 100000 in
theorem k_X0_isCounted (l : Launch) {D : va_G} {cI cJ : ClassId} {ad : Nat → Nat} {u : tU} {v : tV} {a1 : Int32}  {r : Int32}  (h : pX0_isCounted u v a1 = some r) : Met l yX0_isCounted wsX0_isCounted rmX0_isCounted (va_Pc [.ref (ad 2), .int a1] (xPre D cI cJ (wA cI cJ ad u v))) (QcRead r) 0 0 (fun _ => False) := by
  refine Met.ofW (cc := cX0_isCounted) (maxL := 2) (ret := (some .boolean)) (by decide) rfl ?_
  intro p e s m args below meth c s₁ B hml hv
  obtain ⟨rfl, hP, hK⟩ := hv
  have hx := B.exec
  have hb := B.bytes
  have hr := B.returns
  have hts := atoms_spec (ws := wsX0_isCounted) B.pre
  have hown : s.vm.findClass RX0 = some m.cls := findClass_of_methodNamed B.named
  have hlocks := B.notSynchronized
  have hl := lv_entry ([.ref (ad 2), .int a1]) (n := 2) (Nat.le_of_ble_eq_true rfl)
  rw [lg_entry_eq]
  generalize (lg_sl ([.ref (ad 2), .int a1]) ++ List.replicate (2 - (lg_sl ([.ref (ad 2), .int a1])).length) Slot.unset).toArray = ls at hl ⊢
  have hl : lv_has ls 2 [(0, .ref (ad 2)), (1, .int a1)] := hl
  rw [pX0_isCounted] at h
  refine lv_aload_n hx hb dX0_isCounted_0 rfl (lv_at hl 0 rfl) ?_
  refine lv_iload_n hx hb dX0_isCounted_1 rfl (lv_at hl 1 rfl) ?_
  obtain ⟨r2, hc1, h⟩ := vz_b h
  refine za_callR (va_runV (As := [.int a1]) (rest := []) ⟨hx, hb, hml, hown, hts⟩ (k_X0_isInTime l (D := D) (cI := cI) (cJ := cJ) (ad := ad) hc1) (cwV 1 hts gX0_isCounted_X0_isInTime rfl rfl rfl ⟨rfl, zd_X0_isInTime⟩ ⟨Nat.le_of_ble_eq_true rfl, Nat.le_of_ble_eq_true rfl⟩) (xPreV (ci := 0) hK hP rfl zO_2) rfl rfl hl.1 rfl (lv_room (Nat.le_of_ble_eq_true rfl)) dX0_isCounted_2 ⟨Nat.zero_le _, Nat.zero_le _⟩) ?_
  refine lv_if_eq (tgt := 20) hx hb dX0_isCounted_5 (by decide) (fun c3 => ?_) (fun c3 => ?_)
  · have h := vz_t c3 h
    refine lv_iconst (v := (0 : Int32)) hx hb dX0_isCounted_20 (by decide) ?_
    cases h
    exact W.zret hx hb hr nb0 (fun t ht _ => ⟨rfl, ht⟩) (fun q hq => absurd hq List.not_mem_nil) dX0_isCounted_21
  · have h := vz_f c3 h
    refine lv_aload_n hx hb dX0_isCounted_8 rfl (lv_at hl 0 rfl) ?_
    refine lv_iload_n hx hb dX0_isCounted_9 rfl (lv_at hl 1 rfl) ?_
    obtain ⟨r5, hc4, h⟩ := vz_b h
    refine za_callR (va_runV (As := [.int a1]) (rest := []) ⟨hx, hb, hml, hown, hts⟩ (k_X0_goalOf l (D := D) (cI := cI) (cJ := cJ) (ad := ad) hc4) (cwV 1 hts gX0_isCounted_X0_goalOf rfl rfl rfl ⟨rfl, zd_X0_goalOf⟩ ⟨Nat.le_of_ble_eq_true rfl, Nat.le_of_ble_eq_true rfl⟩) (xPreV (ci := 0) hK hP rfl zO_2) rfl rfl hl.1 rfl (lv_room (Nat.le_of_ble_eq_true rfl)) dX0_isCounted_10 ⟨Nat.zero_le _, Nat.zero_le _⟩) ?_
    refine lv_if_lt (tgt := 20) hx hb dX0_isCounted_13 (by decide) (fun c6 => ?_) (fun c6 => ?_)
    · have h := vz_t c6 h
      refine lv_iconst (v := (0 : Int32)) hx hb dX0_isCounted_20 (by decide) ?_
      cases h
      exact W.zret hx hb hr nb0 (fun t ht _ => ⟨rfl, ht⟩) (fun q hq => absurd hq List.not_mem_nil) dX0_isCounted_21
    · have h := vz_f c6 h
      refine lv_iconst (v := (1 : Int32)) hx hb dX0_isCounted_16 (by decide) ?_
      refine lv_goto (tgt := 21) hx hb dX0_isCounted_17 (by decide) ?_
      cases h
      exact W.zret hx hb hr nb1 (fun t ht _ => ⟨rfl, ht⟩) (fun q hq => absurd hq List.not_mem_nil) dX0_isCounted_21
abbrev rmX0_isOfSort : Room := { frames := 5, cells := 0, slots := 0, locals := 120 }
set_option maxHeartbeats 4000000 in
set_option maxRecDepth 100000 in
theorem k_X0_isOfSort (l : Launch) {D : va_G} {cI cJ : ClassId} {ad : Nat → Nat} {u : tU} {v : tV} {a1 : Int32} {a2 : Int32}  {r : Int32}  (h : pX0_isOfSort u v a1 a2 = some r) : Met l yX0_isOfSort wsX0_isOfSort rmX0_isOfSort (va_Pc [.ref (ad 2), .int a1, .int a2] (xPre D cI cJ (wA cI cJ ad u v))) (QcRead r) 0 0 (fun _ => False) := by
  refine Met.ofW (cc := cX0_isOfSort) (maxL := 3) (ret := (some .boolean)) (by decide) rfl ?_
  intro p e s m args below meth c s₁ B hml hv
  obtain ⟨rfl, hP, hK⟩ := hv
  have hx := B.exec
  have hb := B.bytes
  have hr := B.returns
  have hts := atoms_spec (ws := wsX0_isOfSort) B.pre
  have hown : s.vm.findClass RX0 = some m.cls := findClass_of_methodNamed B.named
  have hlocks := B.notSynchronized
  have hl := lv_entry ([.ref (ad 2), .int a1, .int a2]) (n := 3) (Nat.le_of_ble_eq_true rfl)
  rw [lg_entry_eq]
  generalize (lg_sl ([.ref (ad 2), .int a1, .int a2]) ++ List.replicate (3 - (lg_sl ([.ref (ad 2), .int a1, .int a2])).length) Slot.unset).toArray = ls at hl ⊢
  have hl : lv_has ls 3 [(0, .ref (ad 2)), (1, .int a1), (2, .int a2)] := hl
  rw [pX0_isOfSort] at h
  refine lv_iload_n hx hb dX0_isOfSort_0 rfl (lv_at hl 2 rfl) ?_
  by_cases c1 : a2 = (0 : Int32)
  · have h := vz_t c1 h
    refine lv_tableIn (tgt := 28) hx hb dX0_isOfSort_1 (by rw [c1]; decide) (by rw [c1]; decide) (by rw [c1]; rfl) (by decide) ?_
    refine lv_aload_n hx hb dX0_isOfSort_28 rfl (lv_at hl 0 rfl) ?_
    refine lv_iload_n hx hb dX0_isOfSort_29 rfl (lv_at hl 1 rfl) ?_
    obtain ⟨r3, hc2, h⟩ := vz_b h
    refine za_callR (va_runV (As := [.int a1]) (rest := []) ⟨hx, hb, hml, hown, hts⟩ (k_X0_goalOf l (D := D) (cI := cI) (cJ := cJ) (ad := ad) hc2) (cwV 1 hts gX0_isOfSort_X0_goalOf rfl rfl rfl ⟨rfl, zd_X0_goalOf⟩ ⟨Nat.le_of_ble_eq_true rfl, Nat.le_of_ble_eq_true rfl⟩) (xPreV (ci := 0) hK hP rfl zO_2) rfl rfl hl.1 rfl (lv_room (Nat.le_of_ble_eq_true rfl)) dX0_isOfSort_30 ⟨Nat.zero_le _, Nat.zero_le _⟩) ?_
    refine lv_if_lt (tgt := 40) hx hb dX0_isOfSort_33 (by decide) (fun c4 => ?_) (fun c4 => ?_)
    · have h := vz_t c4 h
      refine lv_iconst (v := (0 : Int32)) hx hb dX0_isOfSort_40 (by decide) ?_
      cases h
      exact W.zret hx hb hr nb0 (fun t ht _ => ⟨rfl, ht⟩) (fun q hq => absurd hq List.not_mem_nil) dX0_isOfSort_41
    · have h := vz_f c4 h
      refine lv_iconst (v := (1 : Int32)) hx hb dX0_isOfSort_36 (by decide) ?_
      refine lv_goto (tgt := 41) hx hb dX0_isOfSort_37 (by decide) ?_
      cases h
      exact W.zret hx hb hr nb1 (fun t ht _ => ⟨rfl, ht⟩) (fun q hq => absurd hq List.not_mem_nil) dX0_isOfSort_41
  have h := vz_f c1 h
  by_cases c5 : a2 = (1 : Int32)
  · have h := vz_t c5 h
    refine lv_tableIn (tgt := 42) hx hb dX0_isOfSort_1 (by rw [c5]; decide) (by rw [c5]; decide) (by rw [c5]; rfl) (by decide) ?_
    refine lv_aload_n hx hb dX0_isOfSort_42 rfl (lv_at hl 0 rfl) ?_
    refine lv_iload_n hx hb dX0_isOfSort_43 rfl (lv_at hl 1 rfl) ?_
    obtain ⟨r7, hc6, h⟩ := vz_b h
    refine za_callR (va_runV (As := [.int a1]) (rest := []) ⟨hx, hb, hml, hown, hts⟩ (k_X0_goalOf l (D := D) (cI := cI) (cJ := cJ) (ad := ad) hc6) (cwV 1 hts gX0_isOfSort_X0_goalOf rfl rfl rfl ⟨rfl, zd_X0_goalOf⟩ ⟨Nat.le_of_ble_eq_true rfl, Nat.le_of_ble_eq_true rfl⟩) (xPreV (ci := 0) hK hP rfl zO_2) rfl rfl hl.1 rfl (lv_room (Nat.le_of_ble_eq_true rfl)) dX0_isOfSort_44 ⟨Nat.zero_le _, Nat.zero_le _⟩) ?_
    refine lv_bipush (v := (-5 : Int32)) hx hb dX0_isOfSort_47 (by decide) ?_
    refine lv_icmp_ne (tgt := 56) hx hb dX0_isOfSort_49 (by decide) (fun c8 => ?_) (fun c8 => ?_)
    · have h := vz_f c8 h
      refine lv_iconst (v := (0 : Int32)) hx hb dX0_isOfSort_56 (by decide) ?_
      cases h
      exact W.zret hx hb hr nb0 (fun t ht _ => ⟨rfl, ht⟩) (fun q hq => absurd hq List.not_mem_nil) dX0_isOfSort_57
    · have h := vz_t c8 h
      refine lv_iconst (v := (1 : Int32)) hx hb dX0_isOfSort_52 (by decide) ?_
      refine lv_goto (tgt := 57) hx hb dX0_isOfSort_53 (by decide) ?_
      cases h
      exact W.zret hx hb hr nb1 (fun t ht _ => ⟨rfl, ht⟩) (fun q hq => absurd hq List.not_mem_nil) dX0_isOfSort_57
  have h := vz_f c5 h
  by_cases c9 : a2 = (2 : Int32)
  · have h := vz_t c9 h
    refine lv_tableIn (tgt := 58) hx hb dX0_isOfSort_1 (by rw [c9]; decide) (by rw [c9]; decide) (by rw [c9]; rfl) (by decide) ?_
    refine lv_aload_n hx hb dX0_isOfSort_58 rfl (lv_at hl 0 rfl) ?_
    refine lv_iload_n hx hb dX0_isOfSort_59 rfl (lv_at hl 1 rfl) ?_
    obtain ⟨r11, hc10, h⟩ := vz_b h
    refine za_callR (va_runV (As := [.int a1]) (rest := []) ⟨hx, hb, hml, hown, hts⟩ (k_X0_goalOf l (D := D) (cI := cI) (cJ := cJ) (ad := ad) hc10) (cwV 1 hts gX0_isOfSort_X0_goalOf rfl rfl rfl ⟨rfl, zd_X0_goalOf⟩ ⟨Nat.le_of_ble_eq_true rfl, Nat.le_of_ble_eq_true rfl⟩) (xPreV (ci := 0) hK hP rfl zO_2) rfl rfl hl.1 rfl (lv_room (Nat.le_of_ble_eq_true rfl)) dX0_isOfSort_60 ⟨Nat.zero_le _, Nat.zero_le _⟩) ?_
    refine lv_bipush (v := (-6 : Int32)) hx hb dX0_isOfSort_63 (by decide) ?_
    refine lv_icmp_ne (tgt := 72) hx hb dX0_isOfSort_65 (by decide) (fun c12 => ?_) (fun c12 => ?_)
    · have h := vz_f c12 h
      refine lv_iconst (v := (0 : Int32)) hx hb dX0_isOfSort_72 (by decide) ?_
      cases h
      exact W.zret hx hb hr nb0 (fun t ht _ => ⟨rfl, ht⟩) (fun q hq => absurd hq List.not_mem_nil) dX0_isOfSort_73
    · have h := vz_t c12 h
      refine lv_iconst (v := (1 : Int32)) hx hb dX0_isOfSort_68 (by decide) ?_
      refine lv_goto (tgt := 73) hx hb dX0_isOfSort_69 (by decide) ?_
      cases h
      exact W.zret hx hb hr nb1 (fun t ht _ => ⟨rfl, ht⟩) (fun q hq => absurd hq List.not_mem_nil) dX0_isOfSort_73
  have h := vz_f c9 h
  refine lv_tableOut (tgt := 74) hx hb dX0_isOfSort_1 (tsw2 c1 c5 c9) (by decide) ?_
  refine lv_aload_n hx hb dX0_isOfSort_74 rfl (lv_at hl 0 rfl) ?_
  refine lv_iload_n hx hb dX0_isOfSort_75 rfl (lv_at hl 1 rfl) ?_
  obtain ⟨r14, hc13, h⟩ := vz_b h
  refine za_callR (va_runV (As := [.int a1]) (rest := []) ⟨hx, hb, hml, hown, hts⟩ (k_X0_isCounted l (D := D) (cI := cI) (cJ := cJ) (ad := ad) hc13) (cwV 1 hts gX0_isOfSort_X0_isCounted rfl rfl rfl ⟨rfl, zd_X0_isCounted⟩ ⟨Nat.le_of_ble_eq_true rfl, Nat.le_of_ble_eq_true rfl⟩) (xPreV (ci := 0) hK hP rfl zO_2) rfl rfl hl.1 rfl (lv_room (Nat.le_of_ble_eq_true rfl)) dX0_isOfSort_76 ⟨Nat.zero_le _, Nat.zero_le _⟩) ?_
  obtain ⟨hn, h⟩ := gb_s h
  cases h
  exact W.zret hx hb hr hn (fun t ht _ => ⟨rfl, ht⟩) (fun q hq => absurd hq List.not_mem_nil) dX0_isOfSort_79
abbrev rmX2_cellOf : Room := { frames := 0, cells := 0, slots := 0, locals := 0 }
set_option maxHeartbeats 4000000 in
set_option maxRecDepth 100000 in
theorem k_X2_cellOf (l : Launch) {a0 : Int32} {a1 : Int32}  {r : Int32}  (h : pX2_cellOf a0 a1 = some r) : Met l yX2_cellOf wsX2_cellOf rmX2_cellOf (va_Pc [.int a0, .int a1] (fun _ => True)) (QcRead r) 0 0 (fun _ => False) := by
  refine Met.ofW (cc := cX2_cellOf) (maxL := 2) (ret := (some .int)) (by decide) rfl ?_
  intro p e s m args below meth c s₁ B hml hv
  obtain ⟨rfl, -⟩ := hv
  have hx := B.exec
  have hb := B.bytes
  have hr := B.returns
  have hts := atoms_spec (ws := wsX2_cellOf) B.pre
  have hown : s.vm.findClass RX2 = some m.cls := findClass_of_methodNamed B.named
  have hlocks := B.notSynchronized
  have hl := lv_entry ([.int a0, .int a1]) (n := 2) (Nat.le_of_ble_eq_true rfl)
  rw [lg_entry_eq]
  generalize (lg_sl ([.int a0, .int a1]) ++ List.replicate (2 - (lg_sl ([.int a0, .int a1])).length) Slot.unset).toArray = ls at hl ⊢
  have hl : lv_has ls 2 [(0, .int a0), (1, .int a1)] := hl
  rw [pX2_cellOf] at h
  refine lv_iload_n hx hb dX2_cellOf_0 rfl (lv_at hl 0 rfl) ?_
  refine lv_bipush (v := (10 : Int32)) hx hb dX2_cellOf_1 (by decide) ?_
  refine lv_imul hx hb dX2_cellOf_3 ?_
  refine lv_iload_n hx hb dX2_cellOf_4 rfl (lv_at hl 1 rfl) ?_
  refine lv_iadd hx hb dX2_cellOf_5 ?_
  cases h
  exact W.iret hx hb hr (fun t ht _ => ⟨rfl, ht⟩) (fun q hq => absurd hq List.not_mem_nil) dX2_cellOf_6
abbrev rmX2_versionAt : Room := { frames := 1, cells := 0, slots := 0, locals := 21 }
set_option maxHeartbeats 4000000 in
set_option maxRecDepth 100000 in
theorem k_X2_versionAt (l : Launch) {D : va_G} {cI cJ : ClassId} {ad : Nat → Nat} {u : tU} {v : tV} {a1 : Int32} {a2 : Int32}  {r : Int32}  (h : pX2_versionAt u v a1 a2 = some r) : Met l yX2_versionAt wsX2_versionAt rmX2_versionAt (va_Pc [.ref (ad 60), .int a1, .int a2] (xPre D cI cJ (wA cI cJ ad u v))) (QcRead r) 0 0 (fun _ => False) := by
  refine Met.ofW (cc := cX2_versionAt) (maxL := 3) (ret := (some .int)) (by decide) rfl ?_
  intro p e s m args below meth c s₁ B hml hv
  obtain ⟨rfl, hP, hK⟩ := hv
  have hx := B.exec
  have hb := B.bytes
  have hr := B.returns
  have hts := atoms_spec (ws := wsX2_versionAt) B.pre
  have hown : s.vm.findClass RX2 = some m.cls := findClass_of_methodNamed B.named
  have hlocks := B.notSynchronized
  have hin2 : ∀ w ∈ u_ws RX2 TX2 1, w ∈ wsX2_versionAt := fun _ h => List.mem_cons_of_mem _ (List.mem_append_right _ h)
  have hw1 := hts (.fieldLink RX2 9 "InstallDesk$Holdings" "versions" "[I") (List.mem_of_getElem? (i := 1) rfl)
  have hl := lv_entry ([.ref (ad 60), .int a1, .int a2]) (n := 3) (Nat.le_of_ble_eq_true rfl)
  rw [lg_entry_eq]
  generalize (lg_sl ([.ref (ad 60), .int a1, .int a2]) ++ List.replicate (3 - (lg_sl ([.ref (ad 60), .int a1, .int a2])).length) Slot.unset).toArray = ls at hl ⊢
  have hl : lv_has ls 3 [(0, .ref (ad 60)), (1, .int a1), (2, .int a2)] := hl
  rw [pX2_versionAt] at h
  refine lv_aload_n hx hb dX2_versionAt_0 rfl (lv_at hl 0 rfl) ?_
  refine za_getr (k := 0) hx hb hts hin2 hown hK hP zF_60_0 rfl (Nat.le_of_ble_eq_true rfl) (Or.inl hw1) dX2_versionAt_1 ?_
  refine lv_iload_n hx hb dX2_versionAt_4 rfl (lv_at hl 1 rfl) ?_
  refine lv_iload_n hx hb dX2_versionAt_5 rfl (lv_at hl 2 rfl) ?_
  obtain ⟨r2, hc1, h⟩ := vz_b h
  refine za_callR (va_runS (As := [.int a1, .int a2]) (rest := [.ref (ad 61)]) ⟨hx, hb, hml, hown, hts⟩ (k_X2_cellOf l hc1) (va_cwS 2 hts gX2_versionAt_X2_cellOf rfl rfl rfl zd_X2_cellOf ⟨Nat.le_of_ble_eq_true rfl, Nat.le_of_ble_eq_true rfl⟩) xPre0 rfl rfl hl.1 rfl (lv_room (Nat.le_of_ble_eq_true rfl)) dX2_versionAt_6 ⟨Nat.zero_le _, Nat.zero_le _⟩) ?_
  obtain ⟨g3, h⟩ := gd_s h
  refine za_ild hx hb hK hP zI_61 g3 dX2_versionAt_9 ?_
  cases h
  exact W.iret hx hb hr (fun t ht _ => ⟨rfl, ht⟩) (fun q hq => absurd hq List.not_mem_nil) dX2_versionAt_10
abbrev rmX2_howManyHosts : Room := { frames := 2, cells := 0, slots := 0, locals := 43 }
set_option maxHeartbeats 4000000 in
set_option maxRecDepth 100000 in
theorem k_X2_howManyHosts (l : Launch) {D : va_G} {cI cJ : ClassId} {ad : Nat → Nat} {u : tU} {v : tV} {a2 : Int32}  {r : Int32}  (h : pX2_howManyHosts u v a2 = some r) : Met l yX2_howManyHosts wsX2_howManyHosts rmX2_howManyHosts (va_Pc [.ref (ad 60), .ref (ad 11), .int a2] (xPre D cI cJ (wA cI cJ ad u v))) (QcRead r) 0 0 (fun _ => False) := by
  refine Met.ofW (cc := cX2_howManyHosts) (maxL := 5) (ret := (some .int)) (by decide) rfl ?_
  intro p e s m args below meth c s₁ B hml hv
  obtain ⟨rfl, hP, hK⟩ := hv
  have hx := B.exec
  have hb := B.bytes
  have hr := B.returns
  have hts := atoms_spec (ws := wsX2_howManyHosts) B.pre
  have hown : s.vm.findClass RX2 = some m.cls := findClass_of_methodNamed B.named
  have hlocks := B.notSynchronized
  have hin3 : ∀ w ∈ u_ws RX3 TX3 3, w ∈ wsX2_howManyHosts := fun _ h => List.mem_cons_of_mem _ (List.mem_append_left _ (List.mem_append_right _ h))
  have hl := lv_entry ([.ref (ad 60), .ref (ad 11), .int a2]) (n := 5) (Nat.le_of_ble_eq_true rfl)
  rw [lg_entry_eq]
  generalize (lg_sl ([.ref (ad 60), .ref (ad 11), .int a2]) ++ List.replicate (5 - (lg_sl ([.ref (ad 60), .ref (ad 11), .int a2])).length) Slot.unset).toArray = ls at hl ⊢
  have hl : lv_has ls 5 [(0, .ref (ad 60)), (1, .ref (ad 11)), (2, .int a2)] := hl
  have L5 : ∀ (x2 : Int32) (n : Nat) (x3 : Int32) (x4 : Int32) (ls : Array Slot) (o : Int32), pX2_howManyHosts_L5 u v x2 n x3 x4 = some o → lv_has ls 5 [(0, .ref (ad 60)), (1, .ref (ad 11)), (2, .int x2), (3, .int x3), (4, .int x4)] → (∀ (y3 : Int32) (ls : Array Slot), o = y3 → lv_has ls 5 [(3, .int y3)] → W p l e (headSpec wsX2_howManyHosts rmX2_howManyHosts).room s m [Value.ref (ad 60), Value.ref (ad 11), Value.int a2].toArray below meth c s.heap [] 0 0 (MQ below (QcRead r) [Value.ref (ad 60), Value.ref (ad 11), Value.int a2].toArray s 0 0 (fun _ => False)) (F0 m 33 ls [])) → W p l e (headSpec wsX2_howManyHosts rmX2_howManyHosts).room s m [Value.ref (ad 60), Value.ref (ad 11), Value.int a2].toArray below meth c s.heap [] 0 0 (MQ below (QcRead r) [Value.ref (ad 60), Value.ref (ad 11), Value.int a2].toArray s 0 0 (fun _ => False)) (F0 m 5 ls []) := by
    intro x2 n
    induction n with
    | zero => intro x3 x4 ls o h; cases h
    | succ n ih =>
      intro x3 x4 ls o h hl hk
      rw [pX2_howManyHosts_L5] at h
      refine lv_iload hx hb dX2_howManyHosts_5 (lv_at hl 4 rfl) ?_
      refine lv_aload_n hx hb dX2_howManyHosts_7 rfl (lv_at hl 1 rfl) ?_
      refine za_geti (k := 0) hx hb hts hin3 hown hK hP zF_11_0 rfl (Nat.le_of_ble_eq_true rfl) (nw_105 hK.2) dX2_howManyHosts_8 ?_
      refine lv_icmp_ge (tgt := 33) hx hb dX2_howManyHosts_11 (by decide) (fun c1 => ?_) (fun c1 => ?_)
      · have h := vz_t c1 h
        cases h
        exact hk x3 ls rfl (lv_sub hl [3] rfl)
      · have h := vz_f c1 h
        refine lv_aload_n hx hb dX2_howManyHosts_14 rfl (lv_at hl 0 rfl) ?_
        refine lv_iload hx hb dX2_howManyHosts_15 (lv_at hl 4 rfl) ?_
        refine lv_iload_n hx hb dX2_howManyHosts_17 rfl (lv_at hl 2 rfl) ?_
        obtain ⟨r3, hc2, h⟩ := vz_b h
        refine za_callR (va_runV (As := [.int x4, .int x2]) (rest := []) ⟨hx, hb, hml, hown, hts⟩ (k_X2_versionAt l (D := D) (cI := cI) (cJ := cJ) (ad := ad) hc2) (cwV 2 hts gX2_howManyHosts_X2_versionAt rfl rfl rfl ⟨rfl, zd_X2_versionAt⟩ ⟨Nat.le_of_ble_eq_true rfl, Nat.le_of_ble_eq_true rfl⟩) (xPreV (ci := 2) hK hP rfl zO_60) rfl rfl hl.1 rfl (lv_room (Nat.le_of_ble_eq_true rfl)) dX2_howManyHosts_18 ⟨Nat.zero_le _, Nat.zero_le _⟩) ?_
        refine lv_if_le (tgt := 27) hx hb dX2_howManyHosts_21 (by decide) (fun c4 => ?_) (fun c4 => ?_)
        · have h := vz_t c4 h
          refine lv_iinc (v := (x4 + 1)) (lv' := [(4, .int (x4 + 1)), (0, .ref (ad 60)), (1, .ref (ad 11)), (2, .int x2), (3, .int x3)]) hx hb dX2_howManyHosts_27 hl (k := 4) rfl rfl (by decide) rfl (fun ls hl => ?_)
          refine lv_goto (tgt := 5) hx hb dX2_howManyHosts_30 (by decide) ?_
          exact ih x3 (x4 + 1) ls o h (lv_sub hl [1, 2, 3, 4, 0] rfl) hk
        · have h := vz_f c4 h
          refine lv_iinc (v := (x3 + 1)) (lv' := [(3, .int (x3 + 1)), (0, .ref (ad 60)), (1, .ref (ad 11)), (2, .int x2), (4, .int x4)]) hx hb dX2_howManyHosts_24 hl (k := 3) rfl rfl (by decide) rfl (fun ls hl => ?_)
          refine lv_iinc (v := (x4 + 1)) (lv' := [(4, .int (x4 + 1)), (3, .int (x3 + 1)), (0, .ref (ad 60)), (1, .ref (ad 11)), (2, .int x2)]) hx hb dX2_howManyHosts_27 hl (k := 4) rfl rfl (by decide) rfl (fun ls hl => ?_)
          refine lv_goto (tgt := 5) hx hb dX2_howManyHosts_30 (by decide) ?_
          exact ih (x3 + 1) (x4 + 1) ls o h (lv_sub hl [2, 3, 4, 1, 0] rfl) hk
  rw [pX2_howManyHosts] at h
  refine lv_iconst (v := (0 : Int32)) hx hb dX2_howManyHosts_0 (by decide) ?_
  refine lv_istore_n (lv' := [(3, .int (0 : Int32)), (0, .ref (ad 60)), (1, .ref (ad 11)), (2, .int a2)]) hx hb dX2_howManyHosts_1 rfl hl (by decide) rfl (fun ls hl => ?_)
  refine lv_iconst (v := (0 : Int32)) hx hb dX2_howManyHosts_2 (by decide) ?_
  refine lv_istore (lv' := [(4, .int (0 : Int32)), (3, .int (0 : Int32)), (0, .ref (ad 60)), (1, .ref (ad 11)), (2, .int a2)]) hx hb dX2_howManyHosts_3 hl (by decide) rfl (fun ls hl => ?_)
  obtain ⟨o5, hL6, h⟩ := vz_b h
  refine L5 a2 fuel (0 : Int32) (0 : Int32) ls o5 hL6 (lv_sub hl [2, 3, 4, 1, 0] rfl) (fun y8 ls e7 hl => ?_)
  try rw [e7] at h
  try dsimp only at h
  refine lv_iload_n hx hb dX2_howManyHosts_33 rfl (lv_at hl 0 rfl) ?_
  cases h
  exact W.iret hx hb hr (fun t ht _ => ⟨rfl, ht⟩) (fun q hq => absurd hq List.not_mem_nil) dX2_howManyHosts_34
abbrev rmX2_howManyPersons : Room := { frames := 2, cells := 0, slots := 0, locals := 43 }
set_option maxHeartbeats 4000000 in
set_option maxRecDepth 100000 in
theorem k_X2_howManyPersons (l : Launch) {D : va_G} {cI cJ : ClassId} {ad : Nat → Nat} {u : tU} {v : tV} {a2 : Int32}  {r : Int32}  (h : pX2_howManyPersons u v a2 = some r) : Met l yX2_howManyPersons wsX2_howManyPersons rmX2_howManyPersons (va_Pc [.ref (ad 60), .ref (ad 11), .int a2] (xPre D cI cJ (wA cI cJ ad u v))) (QcRead r) 0 0 (fun _ => False) := by
  refine Met.ofW (cc := cX2_howManyPersons) (maxL := 5) (ret := (some .int)) (by decide) rfl ?_
  intro p e s m args below meth c s₁ B hml hv
  obtain ⟨rfl, hP, hK⟩ := hv
  have hx := B.exec
  have hb := B.bytes
  have hr := B.returns
  have hts := atoms_spec (ws := wsX2_howManyPersons) B.pre
  have hown : s.vm.findClass RX2 = some m.cls := findClass_of_methodNamed B.named
  have hlocks := B.notSynchronized
  have hin3 : ∀ w ∈ u_ws RX3 TX3 3, w ∈ wsX2_howManyPersons := fun _ h => List.mem_cons_of_mem _ (List.mem_append_left _ (List.mem_append_right _ h))
  have hl := lv_entry ([.ref (ad 60), .ref (ad 11), .int a2]) (n := 5) (Nat.le_of_ble_eq_true rfl)
  rw [lg_entry_eq]
  generalize (lg_sl ([.ref (ad 60), .ref (ad 11), .int a2]) ++ List.replicate (5 - (lg_sl ([.ref (ad 60), .ref (ad 11), .int a2])).length) Slot.unset).toArray = ls at hl ⊢
  have hl : lv_has ls 5 [(0, .ref (ad 60)), (1, .ref (ad 11)), (2, .int a2)] := hl
  have L5 : ∀ (x2 : Int32) (n : Nat) (x3 : Int32) (x4 : Int32) (ls : Array Slot) (o : Int32), pX2_howManyPersons_L5 u v x2 n x3 x4 = some o → lv_has ls 5 [(0, .ref (ad 60)), (1, .ref (ad 11)), (2, .int x2), (3, .int x3), (4, .int x4)] → (∀ (y3 : Int32) (ls : Array Slot), o = y3 → lv_has ls 5 [(3, .int y3)] → W p l e (headSpec wsX2_howManyPersons rmX2_howManyPersons).room s m [Value.ref (ad 60), Value.ref (ad 11), Value.int a2].toArray below meth c s.heap [] 0 0 (MQ below (QcRead r) [Value.ref (ad 60), Value.ref (ad 11), Value.int a2].toArray s 0 0 (fun _ => False)) (F0 m 42 ls [])) → W p l e (headSpec wsX2_howManyPersons rmX2_howManyPersons).room s m [Value.ref (ad 60), Value.ref (ad 11), Value.int a2].toArray below meth c s.heap [] 0 0 (MQ below (QcRead r) [Value.ref (ad 60), Value.ref (ad 11), Value.int a2].toArray s 0 0 (fun _ => False)) (F0 m 5 ls []) := by
    intro x2 n
    induction n with
    | zero => intro x3 x4 ls o h; cases h
    | succ n ih =>
      intro x3 x4 ls o h hl hk
      rw [pX2_howManyPersons_L5] at h
      refine lv_iload hx hb dX2_howManyPersons_5 (lv_at hl 4 rfl) ?_
      refine lv_aload_n hx hb dX2_howManyPersons_7 rfl (lv_at hl 1 rfl) ?_
      refine za_geti (k := 0) hx hb hts hin3 hown hK hP zF_11_0 rfl (Nat.le_of_ble_eq_true rfl) (nw_105 hK.2) dX2_howManyPersons_8 ?_
      refine lv_icmp_ge (tgt := 42) hx hb dX2_howManyPersons_11 (by decide) (fun c1 => ?_) (fun c1 => ?_)
      · have h := vz_t c1 h
        cases h
        exact hk x3 ls rfl (lv_sub hl [3] rfl)
      · have h := vz_f c1 h
        refine lv_aload_n hx hb dX2_howManyPersons_14 rfl (lv_at hl 0 rfl) ?_
        refine lv_iload hx hb dX2_howManyPersons_15 (lv_at hl 4 rfl) ?_
        refine lv_iload_n hx hb dX2_howManyPersons_17 rfl (lv_at hl 2 rfl) ?_
        obtain ⟨r3, hc2, h⟩ := vz_b h
        refine za_callR (va_runV (As := [.int x4, .int x2]) (rest := []) ⟨hx, hb, hml, hown, hts⟩ (k_X2_versionAt l (D := D) (cI := cI) (cJ := cJ) (ad := ad) hc2) (cwV 2 hts gX2_howManyPersons_X2_versionAt rfl rfl rfl ⟨rfl, zd_X2_versionAt⟩ ⟨Nat.le_of_ble_eq_true rfl, Nat.le_of_ble_eq_true rfl⟩) (xPreV (ci := 2) hK hP rfl zO_60) rfl rfl hl.1 rfl (lv_room (Nat.le_of_ble_eq_true rfl)) dX2_howManyPersons_18 ⟨Nat.zero_le _, Nat.zero_le _⟩) ?_
        refine lv_if_le (tgt := 36) hx hb dX2_howManyPersons_21 (by decide) (fun c4 => ?_) (fun c4 => ?_)
        · have h := vz_t c4 h
          refine lv_iinc (v := (x4 + 1)) (lv' := [(4, .int (x4 + 1)), (0, .ref (ad 60)), (1, .ref (ad 11)), (2, .int x2), (3, .int x3)]) hx hb dX2_howManyPersons_36 hl (k := 4) rfl rfl (by decide) rfl (fun ls hl => ?_)
          refine lv_goto (tgt := 5) hx hb dX2_howManyPersons_39 (by decide) ?_
          exact ih x3 (x4 + 1) ls o h (lv_sub hl [1, 2, 3, 4, 0] rfl) hk
        · have h := vz_f c4 h
          refine lv_iload_n hx hb dX2_howManyPersons_24 rfl (lv_at hl 3 rfl) ?_
          refine lv_iconst (v := (1 : Int32)) hx hb dX2_howManyPersons_25 (by decide) ?_
          refine lv_aload_n hx hb dX2_howManyPersons_26 rfl (lv_at hl 1 rfl) ?_
          refine za_getr (k := 2) hx hb hts hin3 hown hK hP zF_11_2 rfl (Nat.le_of_ble_eq_true rfl) (nw_111 hK.2) dX2_howManyPersons_27 ?_
          refine lv_iload hx hb dX2_howManyPersons_30 (lv_at hl 4 rfl) ?_
          obtain ⟨g5, h⟩ := gd_s h
          refine za_ild hx hb hK hP zI_13 g5 dX2_howManyPersons_32 ?_
          refine lv_ishl hx hb dX2_howManyPersons_33 ?_
          refine lv_ior hx hb dX2_howManyPersons_34 ?_
          refine lv_istore_n (lv' := [(3, .int (x3 ||| ((1 : Int32) <<< ((u 17 x4.toNatClampNeg) &&& 31)))), (0, .ref (ad 60)), (1, .ref (ad 11)), (2, .int x2), (4, .int x4)]) hx hb dX2_howManyPersons_35 rfl hl (by decide) rfl (fun ls hl => ?_)
          refine lv_iinc (v := (x4 + 1)) (lv' := [(4, .int (x4 + 1)), (3, .int (x3 ||| ((1 : Int32) <<< ((u 17 x4.toNatClampNeg) &&& 31)))), (0, .ref (ad 60)), (1, .ref (ad 11)), (2, .int x2)]) hx hb dX2_howManyPersons_36 hl (k := 4) rfl rfl (by decide) rfl (fun ls hl => ?_)
          refine lv_goto (tgt := 5) hx hb dX2_howManyPersons_39 (by decide) ?_
          exact ih (x3 ||| ((1 : Int32) <<< ((u 17 x4.toNatClampNeg) &&& 31))) (x4 + 1) ls o h (lv_sub hl [2, 3, 4, 1, 0] rfl) hk
  rw [pX2_howManyPersons] at h
  refine lv_iconst (v := (0 : Int32)) hx hb dX2_howManyPersons_0 (by decide) ?_
  refine lv_istore_n (lv' := [(3, .int (0 : Int32)), (0, .ref (ad 60)), (1, .ref (ad 11)), (2, .int a2)]) hx hb dX2_howManyPersons_1 rfl hl (by decide) rfl (fun ls hl => ?_)
  refine lv_iconst (v := (0 : Int32)) hx hb dX2_howManyPersons_2 (by decide) ?_
  refine lv_istore (lv' := [(4, .int (0 : Int32)), (3, .int (0 : Int32)), (0, .ref (ad 60)), (1, .ref (ad 11)), (2, .int a2)]) hx hb dX2_howManyPersons_3 hl (by decide) rfl (fun ls hl => ?_)
  obtain ⟨o6, hL7, h⟩ := vz_b h
  refine L5 a2 fuel (0 : Int32) (0 : Int32) ls o6 hL7 (lv_sub hl [2, 3, 4, 1, 0] rfl) (fun y9 ls e8 hl => ?_)
  try rw [e8] at h
  try dsimp only at h
  refine lv_iload_n hx hb dX2_howManyPersons_42 rfl (lv_at hl 0 rfl) ?_
  obtain ⟨r11, hc10, h⟩ := vz_b h
  refine za_callR (va_runS (As := [.int y9]) (rest := []) ⟨hx, hb, hml, hown, hts⟩ (k_J6_bitCount_0f7a4 l hc10) (va_cwS 1 hts gX2_howManyPersons_J6_bitCount_0f7a4 rfl rfl rfl zd_J6_bitCount_0f7a4 ⟨Nat.le_of_ble_eq_true rfl, Nat.le_of_ble_eq_true rfl⟩) xPre0 rfl rfl hl.1 rfl (lv_room (Nat.le_of_ble_eq_true rfl)) dX2_howManyPersons_43 ⟨Nat.zero_le _, Nat.zero_le _⟩) ?_
  cases h
  exact W.iret hx hb hr (fun t ht _ => ⟨rfl, ht⟩) (fun q hq => absurd hq List.not_mem_nil) dX2_howManyPersons_46
abbrev rmX2_coresByEight : Room := { frames := 2, cells := 0, slots := 0, locals := 43 }
set_option maxHeartbeats 4000000 in
set_option maxRecDepth 100000 in
theorem k_X2_coresByEight (l : Launch) {D : va_G} {cI cJ : ClassId} {ad : Nat → Nat} {u : tU} {v : tV} {a2 : Int32}  {r : Int32}  (h : pX2_coresByEight u v a2 = some r) : Met l yX2_coresByEight wsX2_coresByEight rmX2_coresByEight (va_Pc [.ref (ad 60), .ref (ad 11), .int a2] (xPre D cI cJ (wA cI cJ ad u v))) (QcRead r) 0 0 (fun _ => False) := by
  refine Met.ofW (cc := cX2_coresByEight) (maxL := 5) (ret := (some .int)) (by decide) rfl ?_
  intro p e s m args below meth c s₁ B hml hv
  obtain ⟨rfl, hP, hK⟩ := hv
  have hx := B.exec
  have hb := B.bytes
  have hr := B.returns
  have hts := atoms_spec (ws := wsX2_coresByEight) B.pre
  have hown : s.vm.findClass RX2 = some m.cls := findClass_of_methodNamed B.named
  have hlocks := B.notSynchronized
  have hin3 : ∀ w ∈ u_ws RX3 TX3 3, w ∈ wsX2_coresByEight := fun _ h => List.mem_cons_of_mem _ (List.mem_append_left _ (List.mem_append_right _ h))
  have hl := lv_entry ([.ref (ad 60), .ref (ad 11), .int a2]) (n := 5) (Nat.le_of_ble_eq_true rfl)
  rw [lg_entry_eq]
  generalize (lg_sl ([.ref (ad 60), .ref (ad 11), .int a2]) ++ List.replicate (5 - (lg_sl ([.ref (ad 60), .ref (ad 11), .int a2])).length) Slot.unset).toArray = ls at hl ⊢
  have hl : lv_has ls 5 [(0, .ref (ad 60)), (1, .ref (ad 11)), (2, .int a2)] := hl
  have L5 : ∀ (x2 : Int32) (n : Nat) (x3 : Int32) (x4 : Int32) (ls : Array Slot) (o : Int32), pX2_coresByEight_L5 u v x2 n x3 x4 = some o → lv_has ls 5 [(0, .ref (ad 60)), (1, .ref (ad 11)), (2, .int x2), (3, .int x3), (4, .int x4)] → (∀ (y3 : Int32) (ls : Array Slot), o = y3 → lv_has ls 5 [(3, .int y3)] → W p l e (headSpec wsX2_coresByEight rmX2_coresByEight).room s m [Value.ref (ad 60), Value.ref (ad 11), Value.int a2].toArray below meth c s.heap [] 0 0 (MQ below (QcRead r) [Value.ref (ad 60), Value.ref (ad 11), Value.int a2].toArray s 0 0 (fun _ => False)) (F0 m 48 ls [])) → W p l e (headSpec wsX2_coresByEight rmX2_coresByEight).room s m [Value.ref (ad 60), Value.ref (ad 11), Value.int a2].toArray below meth c s.heap [] 0 0 (MQ below (QcRead r) [Value.ref (ad 60), Value.ref (ad 11), Value.int a2].toArray s 0 0 (fun _ => False)) (F0 m 5 ls []) := by
    intro x2 n
    induction n with
    | zero => intro x3 x4 ls o h; cases h
    | succ n ih =>
      intro x3 x4 ls o h hl hk
      rw [pX2_coresByEight_L5] at h
      refine lv_iload hx hb dX2_coresByEight_5 (lv_at hl 4 rfl) ?_
      refine lv_aload_n hx hb dX2_coresByEight_7 rfl (lv_at hl 1 rfl) ?_
      refine za_geti (k := 0) hx hb hts hin3 hown hK hP zF_11_0 rfl (Nat.le_of_ble_eq_true rfl) (nw_105 hK.2) dX2_coresByEight_8 ?_
      refine lv_icmp_ge (tgt := 48) hx hb dX2_coresByEight_11 (by decide) (fun c1 => ?_) (fun c1 => ?_)
      · have h := vz_t c1 h
        cases h
        exact hk x3 ls rfl (lv_sub hl [3] rfl)
      · have h := vz_f c1 h
        refine lv_aload_n hx hb dX2_coresByEight_14 rfl (lv_at hl 0 rfl) ?_
        refine lv_iload hx hb dX2_coresByEight_15 (lv_at hl 4 rfl) ?_
        refine lv_iload_n hx hb dX2_coresByEight_17 rfl (lv_at hl 2 rfl) ?_
        obtain ⟨r3, hc2, h⟩ := vz_b h
        refine za_callR (va_runV (As := [.int x4, .int x2]) (rest := []) ⟨hx, hb, hml, hown, hts⟩ (k_X2_versionAt l (D := D) (cI := cI) (cJ := cJ) (ad := ad) hc2) (cwV 2 hts gX2_coresByEight_X2_versionAt rfl rfl rfl ⟨rfl, zd_X2_versionAt⟩ ⟨Nat.le_of_ble_eq_true rfl, Nat.le_of_ble_eq_true rfl⟩) (xPreV (ci := 2) hK hP rfl zO_60) rfl rfl hl.1 rfl (lv_room (Nat.le_of_ble_eq_true rfl)) dX2_coresByEight_18 ⟨Nat.zero_le _, Nat.zero_le _⟩) ?_
        refine lv_if_le (tgt := 42) hx hb dX2_coresByEight_21 (by decide) (fun c4 => ?_) (fun c4 => ?_)
        · have h := vz_t c4 h
          refine lv_iinc (v := (x4 + 1)) (lv' := [(4, .int (x4 + 1)), (0, .ref (ad 60)), (1, .ref (ad 11)), (2, .int x2), (3, .int x3)]) hx hb dX2_coresByEight_42 hl (k := 4) rfl rfl (by decide) rfl (fun ls hl => ?_)
          refine lv_goto (tgt := 5) hx hb dX2_coresByEight_45 (by decide) ?_
          exact ih x3 (x4 + 1) ls o h (lv_sub hl [1, 2, 3, 4, 0] rfl) hk
        · have h := vz_f c4 h
          refine lv_iload_n hx hb dX2_coresByEight_24 rfl (lv_at hl 3 rfl) ?_
          refine lv_aload_n hx hb dX2_coresByEight_25 rfl (lv_at hl 1 rfl) ?_
          refine za_getr (k := 1) hx hb hts hin3 hown hK hP zF_11_1 rfl (Nat.le_of_ble_eq_true rfl) (nw_108 hK.2) dX2_coresByEight_26 ?_
          refine lv_iload hx hb dX2_coresByEight_29 (lv_at hl 4 rfl) ?_
          obtain ⟨g5, h⟩ := gd_s h
          refine za_ild hx hb hK hP zI_12 g5 dX2_coresByEight_31 ?_
          refine lv_bipush (v := (8 : Int32)) hx hb dX2_coresByEight_32 (by decide) ?_
          refine lv_iadd hx hb dX2_coresByEight_34 ?_
          refine lv_iconst (v := (1 : Int32)) hx hb dX2_coresByEight_35 (by decide) ?_
          refine lv_isub hx hb dX2_coresByEight_36 ?_
          refine lv_bipush (v := (8 : Int32)) hx hb dX2_coresByEight_37 (by decide) ?_
          refine lv_idiv hx hb dX2_coresByEight_39 (by decide) ?_
          refine lv_iadd hx hb dX2_coresByEight_40 ?_
          refine lv_istore_n (lv' := [(3, .int (x3 + ((((u 16 x4.toNatClampNeg) + (8 : Int32)) - (1 : Int32)) / (8 : Int32)))), (0, .ref (ad 60)), (1, .ref (ad 11)), (2, .int x2), (4, .int x4)]) hx hb dX2_coresByEight_41 rfl hl (by decide) rfl (fun ls hl => ?_)
          refine lv_iinc (v := (x4 + 1)) (lv' := [(4, .int (x4 + 1)), (3, .int (x3 + ((((u 16 x4.toNatClampNeg) + (8 : Int32)) - (1 : Int32)) / (8 : Int32)))), (0, .ref (ad 60)), (1, .ref (ad 11)), (2, .int x2)]) hx hb dX2_coresByEight_42 hl (k := 4) rfl rfl (by decide) rfl (fun ls hl => ?_)
          refine lv_goto (tgt := 5) hx hb dX2_coresByEight_45 (by decide) ?_
          exact ih (x3 + ((((u 16 x4.toNatClampNeg) + (8 : Int32)) - (1 : Int32)) / (8 : Int32))) (x4 + 1) ls o h (lv_sub hl [2, 3, 4, 1, 0] rfl) hk
  rw [pX2_coresByEight] at h
  refine lv_iconst (v := (0 : Int32)) hx hb dX2_coresByEight_0 (by decide) ?_
  refine lv_istore_n (lv' := [(3, .int (0 : Int32)), (0, .ref (ad 60)), (1, .ref (ad 11)), (2, .int a2)]) hx hb dX2_coresByEight_1 rfl hl (by decide) rfl (fun ls hl => ?_)
  refine lv_iconst (v := (0 : Int32)) hx hb dX2_coresByEight_2 (by decide) ?_
  refine lv_istore (lv' := [(4, .int (0 : Int32)), (3, .int (0 : Int32)), (0, .ref (ad 60)), (1, .ref (ad 11)), (2, .int a2)]) hx hb dX2_coresByEight_3 hl (by decide) rfl (fun ls hl => ?_)
  obtain ⟨o6, hL7, h⟩ := vz_b h
  refine L5 a2 fuel (0 : Int32) (0 : Int32) ls o6 hL7 (lv_sub hl [2, 3, 4, 1, 0] rfl) (fun y9 ls e8 hl => ?_)
  try rw [e8] at h
  try dsimp only at h
  refine lv_iload_n hx hb dX2_coresByEight_48 rfl (lv_at hl 0 rfl) ?_
  cases h
  exact W.iret hx hb hr (fun t ht _ => ⟨rfl, ht⟩) (fun q hq => absurd hq List.not_mem_nil) dX2_coresByEight_49
