theorem nb0 : narrow .boolean (.int 0) = .int 0 := by show Value.int ((0 : Int32) &&& 1) = .int 0; rw [show ((0 : Int32) &&& 1) = 0 by decide]
theorem nb1 : narrow .boolean (.int 1) = .int 1 := by show Value.int ((1 : Int32) &&& 1) = .int 1; rw [show ((1 : Int32) &&& 1) = 1 by decide]
theorem nbf0 : fits .boolean (.int 0) = true := by have h := fits_narrow_boolean 0; rw [nb0] at h; exact h
theorem nbf1 : fits .boolean (.int 1) = true := by have h := fits_narrow_boolean 1; rw [nb1] at h; exact h
section ZROWS2
variable {p : Program} {l : Launch} {e : Env} {R : Room} {s : State} {m : MethodId} {args : Array Value} {below : List Frame} {meth : Method} {c : Code} {H H0 : Heap} {locs : List Loc} {cells slots : Nat} {Q : State → Prop} {cc : ByteArray} {pc : Nat} {ls : Array Slot} {rest st0 : List Value} {D : va_G} {cI cJ : ClassId} {ad : Nat → Nat} {u : tU} {v : tV} {A : Nat → Prop} {a : Array Value}
variable {own C : String} {T : u_T} {N ci index : Nat} {Ts : List Cond} {q k r cl q1 n j : Nat}
theorem za_ildc (hexec : p.tables.exec = Jvm.exec) (hb : c.code = cc) (hK : xK D cI cJ s) (hP : va_P D vwCl (wA cI cJ ad u v) H) (hz : zI cI cJ ad q n r) {i : Int32} (hin : vp_in i n) (hj : i.toNatClampNeg = j) (hdg : decode cc pc = .ok (.iaload, 1))
    (kk : W p l e R s m args below meth c H locs cells slots Q (F0 m (pc + 1) ls (.int (u r j) :: rest))) : W p l e R s m args below meth c H locs cells slots Q (F0 m pc ls (.int i :: .ref (ad q) :: rest)) := by
  subst hj
  exact za_ild hexec hb hK hP hz hin hdg kk
theorem za_istc (hexec : p.tables.exec = Jvm.exec) (hb : c.code = cc) (hK : xK D cI cJ s) (hP : va_P D vwCl (wA cI cJ ad u v) H) (hD : zD A cI cJ ad) (hS : va_S A H0 H locs) (hz : zI cI cJ ad q n r) {i x : Int32} (hin : vp_in i n) (hj : i.toNatClampNeg = j) (hdg : decode cc pc = .ok (.iastore, 1))
    (kk : ∀ (H1 : Heap) (locs1 : List Loc), va_P D vwCl (wA cI cJ ad (sU u r j x) v) H1 → va_S A H0 H1 locs1 → W p l e R s m args below meth c H1 locs1 cells slots Q (F0 m (pc + 1) ls rest)) : W p l e R s m args below meth c H locs cells slots Q (F0 m pc ls (.int x :: .int i :: .ref (ad q) :: rest)) := by
  subst hj
  exact za_ist hexec hb hK hP hD hS hz hin hdg kk
variable {q2 n2 r2 k' : Nat}
theorem za_cpi0 (hexec : p.tables.exec = Jvm.exec) (hb : c.code = cc) (hml : c.maxLocals = ls.size) (hown : s.vm.findClass own = some m.cls) (hlink : (Cond.methodLink own index arraycopyName).before args s = true) (hnat : (Cond.native arraycopyName).before args s = true) (hstat : (Cond.static arraycopyName).before args s = true) (hini : (Cond.initialized "java/lang/System").before args s = true)
    (hK : xK D cI cJ s) (hP : va_P D vwCl (wA cI cJ ad u v) H) (hD : zD A cI cJ ad) (hS : va_S A H0 H locs) (hz : zI cI cJ ad q n r) (hz2 : zI cI cJ ad q2 n2 r2) {k : Int32} (h3 : ¬ k < 0) (hk : k.toNatClampNeg = k') (h4 : k' ≤ n) (h5 : k' ≤ n2)
    (hframes : 1 ≤ R.frames) (hlocals : (rest.map fun v => v.category).sum + (nativeFrameWords "java/lang/System" "arraycopy" 5 + 11) ≤ R.locals) (hdg : decode cc pc = .ok (.invokestatic index, 3))
    (kk : ∀ (H1 : Heap) (locs1 : List Loc), va_P D vwCl (wA cI cJ ad (va_up u r2 (va_cpy (u r) (u r2) 0 0 k')) v) H1 → va_S A H0 H1 locs1 → W p l e R s m args below meth c H1 locs1 cells slots Q (F0 m (pc + 3) ls rest)) : W p l e R s m args below meth c H locs cells slots Q (F0 m pc ls (.int k :: .int (0 : Int32) :: .ref (ad q2) :: .int (0 : Int32) :: .ref (ad q) :: rest)) := by
  subst hk
  have e0 : (0 : Int32).toNatClampNeg = 0 := rfl
  refine za_cpi hexec hb hml hown hlink hnat hstat hini hK hP hD hS hz hz2 (by decide) (by decide) h3 (by rw [e0, Nat.zero_add]; exact h4) (by rw [e0, Nat.zero_add]; exact h5) hframes hlocals hdg (fun H1 locs1 g1 g3 => ?_)
  rw [e0] at g1
  exact kk H1 locs1 g1 g3
theorem za_cpl0 (hexec : p.tables.exec = Jvm.exec) (hb : c.code = cc) (hml : c.maxLocals = ls.size) (hown : s.vm.findClass own = some m.cls) (hlink : (Cond.methodLink own index arraycopyName).before args s = true) (hnat : (Cond.native arraycopyName).before args s = true) (hstat : (Cond.static arraycopyName).before args s = true) (hini : (Cond.initialized "java/lang/System").before args s = true)
    (hK : xK D cI cJ s) (hP : va_P D vwCl (wA cI cJ ad u v) H) (hD : zD A cI cJ ad) (hS : va_S A H0 H locs) (hz : zJ cI cJ ad q n r) (hz2 : zJ cI cJ ad q2 n2 r2) {k : Int32} (h3 : ¬ k < 0) (hk : k.toNatClampNeg = k') (h4 : k' ≤ n) (h5 : k' ≤ n2)
    (hframes : 1 ≤ R.frames) (hlocals : (rest.map fun v => v.category).sum + (nativeFrameWords "java/lang/System" "arraycopy" 5 + 11) ≤ R.locals) (hdg : decode cc pc = .ok (.invokestatic index, 3))
    (kk : ∀ (H1 : Heap) (locs1 : List Loc), va_P D vwCl (wA cI cJ ad u (va_up v r2 (va_cpy (v r) (v r2) 0 0 k'))) H1 → va_S A H0 H1 locs1 → W p l e R s m args below meth c H1 locs1 cells slots Q (F0 m (pc + 3) ls rest)) : W p l e R s m args below meth c H locs cells slots Q (F0 m pc ls (.int k :: .int (0 : Int32) :: .ref (ad q2) :: .int (0 : Int32) :: .ref (ad q) :: rest)) := by
  subst hk
  have e0 : (0 : Int32).toNatClampNeg = 0 := rfl
  refine za_cpl hexec hb hml hown hlink hnat hstat hini hK hP hD hS hz hz2 (by decide) (by decide) h3 (by rw [e0, Nat.zero_add]; exact h4) (by rw [e0, Nat.zero_add]; exact h5) hframes hlocals hdg (fun H1 locs1 g1 g3 => ?_)
  rw [e0] at g1
  exact kk H1 locs1 g1 g3
end ZROWS2
theorem tsw2 {x : Int32} (h0 : ¬ x = (0 : Int32)) (h1 : ¬ x = (1 : Int32)) (h2 : ¬ x = (2 : Int32)) : x.toInt < 0 ∨ 2 < x.toInt := by
  have g0 : ¬ x.toInt = 0 := tsw h0
  have g1 : ¬ x.toInt = 1 := tsw h1
  have g2 : ¬ x.toInt = 2 := tsw h2
  omega
theorem tsw6 {x : Int32} (h0 : ¬ x = (0 : Int32)) (h1 : ¬ x = (1 : Int32)) (h2 : ¬ x = (2 : Int32)) (h3 : ¬ x = (3 : Int32)) (h4 : ¬ x = (4 : Int32)) (h5 : ¬ x = (5 : Int32)) (h6 : ¬ x = (6 : Int32)) : x.toInt < 0 ∨ 6 < x.toInt := by
  have g0 : ¬ x.toInt = 0 := tsw h0
  have g1 : ¬ x.toInt = 1 := tsw h1
  have g2 : ¬ x.toInt = 2 := tsw h2
  have g3 : ¬ x.toInt = 3 := tsw h3
  have g4 : ¬ x.toInt = 4 := tsw h4
  have g5 : ¬ x.toInt = 5 := tsw h5
  have g6 : ¬ x.toInt = 6 := tsw h6
  omega
theorem tsw34 {x : Int32} (h0 : ¬ x = (0 : Int32)) (h1 : ¬ x = (1 : Int32)) (h2 : ¬ x = (2 : Int32)) (h3 : ¬ x = (3 : Int32)) (h4 : ¬ x = (4 : Int32)) (h5 : ¬ x = (5 : Int32)) (h6 : ¬ x = (6 : Int32)) (h7 : ¬ x = (7 : Int32)) (h8 : ¬ x = (8 : Int32)) (h9 : ¬ x = (9 : Int32)) (h10 : ¬ x = (10 : Int32)) (h11 : ¬ x = (11 : Int32)) (h12 : ¬ x = (12 : Int32)) (h13 : ¬ x = (13 : Int32)) (h14 : ¬ x = (14 : Int32)) (h15 : ¬ x = (15 : Int32)) (h16 : ¬ x = (16 : Int32)) (h17 : ¬ x = (17 : Int32)) (h18 : ¬ x = (18 : Int32)) (h19 : ¬ x = (19 : Int32)) (h20 : ¬ x = (20 : Int32)) (h21 : ¬ x = (21 : Int32)) (h22 : ¬ x = (22 : Int32)) (h23 : ¬ x = (23 : Int32)) (h24 : ¬ x = (24 : Int32)) (h25 : ¬ x = (25 : Int32)) (h26 : ¬ x = (26 : Int32)) (h27 : ¬ x = (27 : Int32)) (h28 : ¬ x = (28 : Int32)) (h29 : ¬ x = (29 : Int32)) (h30 : ¬ x = (30 : Int32)) (h31 : ¬ x = (31 : Int32)) (h32 : ¬ x = (32 : Int32)) (h33 : ¬ x = (33 : Int32)) (h34 : ¬ x = (34 : Int32)) : x.toInt < 0 ∨ 34 < x.toInt := by
  have g0 : ¬ x.toInt = 0 := tsw h0
  have g1 : ¬ x.toInt = 1 := tsw h1
  have g2 : ¬ x.toInt = 2 := tsw h2
  have g3 : ¬ x.toInt = 3 := tsw h3
  have g4 : ¬ x.toInt = 4 := tsw h4
  have g5 : ¬ x.toInt = 5 := tsw h5
  have g6 : ¬ x.toInt = 6 := tsw h6
  have g7 : ¬ x.toInt = 7 := tsw h7
  have g8 : ¬ x.toInt = 8 := tsw h8
  have g9 : ¬ x.toInt = 9 := tsw h9
  have g10 : ¬ x.toInt = 10 := tsw h10
  have g11 : ¬ x.toInt = 11 := tsw h11
  have g12 : ¬ x.toInt = 12 := tsw h12
  have g13 : ¬ x.toInt = 13 := tsw h13
  have g14 : ¬ x.toInt = 14 := tsw h14
  have g15 : ¬ x.toInt = 15 := tsw h15
  have g16 : ¬ x.toInt = 16 := tsw h16
  have g17 : ¬ x.toInt = 17 := tsw h17
  have g18 : ¬ x.toInt = 18 := tsw h18
  have g19 : ¬ x.toInt = 19 := tsw h19
  have g20 : ¬ x.toInt = 20 := tsw h20
  have g21 : ¬ x.toInt = 21 := tsw h21
  have g22 : ¬ x.toInt = 22 := tsw h22
  have g23 : ¬ x.toInt = 23 := tsw h23
  have g24 : ¬ x.toInt = 24 := tsw h24
  have g25 : ¬ x.toInt = 25 := tsw h25
  have g26 : ¬ x.toInt = 26 := tsw h26
  have g27 : ¬ x.toInt = 27 := tsw h27
  have g28 : ¬ x.toInt = 28 := tsw h28
  have g29 : ¬ x.toInt = 29 := tsw h29
  have g30 : ¬ x.toInt = 30 := tsw h30
  have g31 : ¬ x.toInt = 31 := tsw h31
  have g32 : ¬ x.toInt = 32 := tsw h32
  have g33 : ¬ x.toInt = 33 := tsw h33
  have g34 : ¬ x.toInt = 34 := tsw h34
  omega
theorem zd_J6_bitCount_0f7a4 : yJ6_bitCount_0f7a4.cls ≠ "java/lang/invoke/MethodHandle" ∧ yJ6_bitCount_0f7a4.cls ≠ "java/lang/invoke/VarHandle" ∧ (parseMethodDescriptor yJ6_bitCount_0f7a4.desc).map (fun d => d.parameters.length) = some 1 := by decide +kernel
theorem zd_J7_fill_53178 : yJ7_fill_53178.cls ≠ "java/lang/invoke/MethodHandle" ∧ yJ7_fill_53178.cls ≠ "java/lang/invoke/VarHandle" ∧ (parseMethodDescriptor yJ7_fill_53178.desc).map (fun d => d.parameters.length) = some 2 := by decide +kernel
theorem zd_J9_max_7cf53 : yJ9_max_7cf53.cls ≠ "java/lang/invoke/MethodHandle" ∧ yJ9_max_7cf53.cls ≠ "java/lang/invoke/VarHandle" ∧ (parseMethodDescriptor yJ9_max_7cf53.desc).map (fun d => d.parameters.length) = some 2 := by decide +kernel
theorem zd_X0_copyFrom : yX0_copyFrom.cls ≠ "java/lang/invoke/MethodHandle" ∧ yX0_copyFrom.cls ≠ "java/lang/invoke/VarHandle" ∧ (parseMethodDescriptor yX0_copyFrom.desc).map (fun d => d.parameters.length) = some 1 := by decide +kernel
theorem zd_X0_firstRuleOf : yX0_firstRuleOf.cls ≠ "java/lang/invoke/MethodHandle" ∧ yX0_firstRuleOf.cls ≠ "java/lang/invoke/VarHandle" ∧ (parseMethodDescriptor yX0_firstRuleOf.desc).map (fun d => d.parameters.length) = some 1 := by decide +kernel
theorem zd_X0_goalOf : yX0_goalOf.cls ≠ "java/lang/invoke/MethodHandle" ∧ yX0_goalOf.cls ≠ "java/lang/invoke/VarHandle" ∧ (parseMethodDescriptor yX0_goalOf.desc).map (fun d => d.parameters.length) = some 1 := by decide +kernel
theorem zd_X0_init : yX0_init.cls ≠ "java/lang/invoke/MethodHandle" ∧ yX0_init.cls ≠ "java/lang/invoke/VarHandle" ∧ (parseMethodDescriptor yX0_init.desc).map (fun d => d.parameters.length) = some 0 := by decide +kernel
theorem zd_X0_isCounted : yX0_isCounted.cls ≠ "java/lang/invoke/MethodHandle" ∧ yX0_isCounted.cls ≠ "java/lang/invoke/VarHandle" ∧ (parseMethodDescriptor yX0_isCounted.desc).map (fun d => d.parameters.length) = some 1 := by decide +kernel
theorem zd_X0_isFitting : yX0_isFitting.cls ≠ "java/lang/invoke/MethodHandle" ∧ yX0_isFitting.cls ≠ "java/lang/invoke/VarHandle" ∧ (parseMethodDescriptor yX0_isFitting.desc).map (fun d => d.parameters.length) = some 2 := by decide +kernel
theorem zd_X0_isInTime : yX0_isInTime.cls ≠ "java/lang/invoke/MethodHandle" ∧ yX0_isInTime.cls ≠ "java/lang/invoke/VarHandle" ∧ (parseMethodDescriptor yX0_isInTime.desc).map (fun d => d.parameters.length) = some 1 := by decide +kernel
theorem zd_X0_isOfSort : yX0_isOfSort.cls ≠ "java/lang/invoke/MethodHandle" ∧ yX0_isOfSort.cls ≠ "java/lang/invoke/VarHandle" ∧ (parseMethodDescriptor yX0_isOfSort.desc).map (fun d => d.parameters.length) = some 2 := by decide +kernel
theorem zd_X10_all : yX10_all.cls ≠ "java/lang/invoke/MethodHandle" ∧ yX10_all.cls ≠ "java/lang/invoke/VarHandle" ∧ (parseMethodDescriptor yX10_all.desc).map (fun d => d.parameters.length) = some 1 := by decide +kernel
theorem zd_X10_amount : yX10_amount.cls ≠ "java/lang/invoke/MethodHandle" ∧ yX10_amount.cls ≠ "java/lang/invoke/VarHandle" ∧ (parseMethodDescriptor yX10_amount.desc).map (fun d => d.parameters.length) = some 2 := by decide +kernel
theorem zd_X10_as : yX10_as.cls ≠ "java/lang/invoke/MethodHandle" ∧ yX10_as.cls ≠ "java/lang/invoke/VarHandle" ∧ (parseMethodDescriptor yX10_as.desc).map (fun d => d.parameters.length) = some 2 := by decide +kernel
theorem zd_X10_at : yX10_at.cls ≠ "java/lang/invoke/MethodHandle" ∧ yX10_at.cls ≠ "java/lang/invoke/VarHandle" ∧ (parseMethodDescriptor yX10_at.desc).map (fun d => d.parameters.length) = some 2 := by decide +kernel
theorem zd_X10_back : yX10_back.cls ≠ "java/lang/invoke/MethodHandle" ∧ yX10_back.cls ≠ "java/lang/invoke/VarHandle" ∧ (parseMethodDescriptor yX10_back.desc).map (fun d => d.parameters.length) = some 0 := by decide +kernel
theorem zd_X10_by : yX10_by.cls ≠ "java/lang/invoke/MethodHandle" ∧ yX10_by.cls ≠ "java/lang/invoke/VarHandle" ∧ (parseMethodDescriptor yX10_by.desc).map (fun d => d.parameters.length) = some 1 := by decide +kernel
theorem zd_X10_cost : yX10_cost.cls ≠ "java/lang/invoke/MethodHandle" ∧ yX10_cost.cls ≠ "java/lang/invoke/VarHandle" ∧ (parseMethodDescriptor yX10_cost.desc).map (fun d => d.parameters.length) = some 0 := by decide +kernel
theorem zd_X10_counts : yX10_counts.cls ≠ "java/lang/invoke/MethodHandle" ∧ yX10_counts.cls ≠ "java/lang/invoke/VarHandle" ∧ (parseMethodDescriptor yX10_counts.desc).map (fun d => d.parameters.length) = some 1 := by decide +kernel
theorem zd_X10_drop : yX10_drop.cls ≠ "java/lang/invoke/MethodHandle" ∧ yX10_drop.cls ≠ "java/lang/invoke/VarHandle" ∧ (parseMethodDescriptor yX10_drop.desc).map (fun d => d.parameters.length) = some 1 := by decide +kernel
theorem zd_X10_find : yX10_find.cls ≠ "java/lang/invoke/MethodHandle" ∧ yX10_find.cls ≠ "java/lang/invoke/VarHandle" ∧ (parseMethodDescriptor yX10_find.desc).map (fun d => d.parameters.length) = some 3 := by decide +kernel
theorem zd_X10_finding : yX10_finding.cls ≠ "java/lang/invoke/MethodHandle" ∧ yX10_finding.cls ≠ "java/lang/invoke/VarHandle" ∧ (parseMethodDescriptor yX10_finding.desc).map (fun d => d.parameters.length) = some 1 := by decide +kernel
theorem zd_X10_finds : yX10_finds.cls ≠ "java/lang/invoke/MethodHandle" ∧ yX10_finds.cls ≠ "java/lang/invoke/VarHandle" ∧ (parseMethodDescriptor yX10_finds.desc).map (fun d => d.parameters.length) = some 1 := by decide +kernel
theorem zd_X10_firstDayAbove : yX10_firstDayAbove.cls ≠ "java/lang/invoke/MethodHandle" ∧ yX10_firstDayAbove.cls ≠ "java/lang/invoke/VarHandle" ∧ (parseMethodDescriptor yX10_firstDayAbove.desc).map (fun d => d.parameters.length) = some 1 := by decide +kernel
theorem zd_X10_fits : yX10_fits.cls ≠ "java/lang/invoke/MethodHandle" ∧ yX10_fits.cls ≠ "java/lang/invoke/VarHandle" ∧ (parseMethodDescriptor yX10_fits.desc).map (fun d => d.parameters.length) = some 2 := by decide +kernel
theorem zd_X10_goes : yX10_goes.cls ≠ "java/lang/invoke/MethodHandle" ∧ yX10_goes.cls ≠ "java/lang/invoke/VarHandle" ∧ (parseMethodDescriptor yX10_goes.desc).map (fun d => d.parameters.length) = some 1 := by decide +kernel
theorem zd_X10_has : yX10_has.cls ≠ "java/lang/invoke/MethodHandle" ∧ yX10_has.cls ≠ "java/lang/invoke/VarHandle" ∧ (parseMethodDescriptor yX10_has.desc).map (fun d => d.parameters.length) = some 2 := by decide +kernel
theorem zd_X10_host : yX10_host.cls ≠ "java/lang/invoke/MethodHandle" ∧ yX10_host.cls ≠ "java/lang/invoke/VarHandle" ∧ (parseMethodDescriptor yX10_host.desc).map (fun d => d.parameters.length) = some 2 := by decide +kernel
theorem zd_X10_init : yX10_init.cls ≠ "java/lang/invoke/MethodHandle" ∧ yX10_init.cls ≠ "java/lang/invoke/VarHandle" ∧ (parseMethodDescriptor yX10_init.desc).map (fun d => d.parameters.length) = some 0 := by decide +kernel
theorem zd_X10_isDay : yX10_isDay.cls ≠ "java/lang/invoke/MethodHandle" ∧ yX10_isDay.cls ≠ "java/lang/invoke/VarHandle" ∧ (parseMethodDescriptor yX10_isDay.desc).map (fun d => d.parameters.length) = some 1 := by decide +kernel
theorem zd_X10_isKind : yX10_isKind.cls ≠ "java/lang/invoke/MethodHandle" ∧ yX10_isKind.cls ≠ "java/lang/invoke/VarHandle" ∧ (parseMethodDescriptor yX10_isKind.desc).map (fun d => d.parameters.length) = some 1 := by decide +kernel
theorem zd_X10_isMeasure : yX10_isMeasure.cls ≠ "java/lang/invoke/MethodHandle" ∧ yX10_isMeasure.cls ≠ "java/lang/invoke/VarHandle" ∧ (parseMethodDescriptor yX10_isMeasure.desc).map (fun d => d.parameters.length) = some 1 := by decide +kernel
theorem zd_X10_isTick : yX10_isTick.cls ≠ "java/lang/invoke/MethodHandle" ∧ yX10_isTick.cls ≠ "java/lang/invoke/VarHandle" ∧ (parseMethodDescriptor yX10_isTick.desc).map (fun d => d.parameters.length) = some 1 := by decide +kernel
theorem zd_X10_isUnder : yX10_isUnder.cls ≠ "java/lang/invoke/MethodHandle" ∧ yX10_isUnder.cls ≠ "java/lang/invoke/VarHandle" ∧ (parseMethodDescriptor yX10_isUnder.desc).map (fun d => d.parameters.length) = some 2 := by decide +kernel
theorem zd_X10_isVersion : yX10_isVersion.cls ≠ "java/lang/invoke/MethodHandle" ∧ yX10_isVersion.cls ≠ "java/lang/invoke/VarHandle" ∧ (parseMethodDescriptor yX10_isVersion.desc).map (fun d => d.parameters.length) = some 1 := by decide +kernel
theorem zd_X10_isWithin : yX10_isWithin.cls ≠ "java/lang/invoke/MethodHandle" ∧ yX10_isWithin.cls ≠ "java/lang/invoke/VarHandle" ∧ (parseMethodDescriptor yX10_isWithin.desc).map (fun d => d.parameters.length) = some 3 := by decide +kernel
theorem zd_X10_keep : yX10_keep.cls ≠ "java/lang/invoke/MethodHandle" ∧ yX10_keep.cls ≠ "java/lang/invoke/VarHandle" ∧ (parseMethodDescriptor yX10_keep.desc).map (fun d => d.parameters.length) = some 0 := by decide +kernel
theorem zd_X10_kept : yX10_kept.cls ≠ "java/lang/invoke/MethodHandle" ∧ yX10_kept.cls ≠ "java/lang/invoke/VarHandle" ∧ (parseMethodDescriptor yX10_kept.desc).map (fun d => d.parameters.length) = some 1 := by decide +kernel
theorem zd_X10_lack : yX10_lack.cls ≠ "java/lang/invoke/MethodHandle" ∧ yX10_lack.cls ≠ "java/lang/invoke/VarHandle" ∧ (parseMethodDescriptor yX10_lack.desc).map (fun d => d.parameters.length) = some 0 := by decide +kernel
theorem zd_X10_lackOn : yX10_lackOn.cls ≠ "java/lang/invoke/MethodHandle" ∧ yX10_lackOn.cls ≠ "java/lang/invoke/VarHandle" ∧ (parseMethodDescriptor yX10_lackOn.desc).map (fun d => d.parameters.length) = some 1 := by decide +kernel
theorem zd_X10_letter : yX10_letter.cls ≠ "java/lang/invoke/MethodHandle" ∧ yX10_letter.cls ≠ "java/lang/invoke/VarHandle" ∧ (parseMethodDescriptor yX10_letter.desc).map (fun d => d.parameters.length) = some 1 := by decide +kernel
theorem zd_X10_may : yX10_may.cls ≠ "java/lang/invoke/MethodHandle" ∧ yX10_may.cls ≠ "java/lang/invoke/VarHandle" ∧ (parseMethodDescriptor yX10_may.desc).map (fun d => d.parameters.length) = some 2 := by decide +kernel
theorem zd_X10_measure : yX10_measure.cls ≠ "java/lang/invoke/MethodHandle" ∧ yX10_measure.cls ≠ "java/lang/invoke/VarHandle" ∧ (parseMethodDescriptor yX10_measure.desc).map (fun d => d.parameters.length) = some 2 := by decide +kernel
theorem zd_X10_measured : yX10_measured.cls ≠ "java/lang/invoke/MethodHandle" ∧ yX10_measured.cls ≠ "java/lang/invoke/VarHandle" ∧ (parseMethodDescriptor yX10_measured.desc).map (fun d => d.parameters.length) = some 2 := by decide +kernel
theorem zd_X10_moved : yX10_moved.cls ≠ "java/lang/invoke/MethodHandle" ∧ yX10_moved.cls ≠ "java/lang/invoke/VarHandle" ∧ (parseMethodDescriptor yX10_moved.desc).map (fun d => d.parameters.length) = some 2 := by decide +kernel
theorem zd_X10_needs : yX10_needs.cls ≠ "java/lang/invoke/MethodHandle" ∧ yX10_needs.cls ≠ "java/lang/invoke/VarHandle" ∧ (parseMethodDescriptor yX10_needs.desc).map (fun d => d.parameters.length) = some 0 := by decide +kernel
theorem zd_X10_of : yX10_of.cls ≠ "java/lang/invoke/MethodHandle" ∧ yX10_of.cls ≠ "java/lang/invoke/VarHandle" ∧ (parseMethodDescriptor yX10_of.desc).map (fun d => d.parameters.length) = some 2 := by decide +kernel
theorem zd_X10_peak : yX10_peak.cls ≠ "java/lang/invoke/MethodHandle" ∧ yX10_peak.cls ≠ "java/lang/invoke/VarHandle" ∧ (parseMethodDescriptor yX10_peak.desc).map (fun d => d.parameters.length) = some 1 := by decide +kernel
theorem zd_X10_product : yX10_product.cls ≠ "java/lang/invoke/MethodHandle" ∧ yX10_product.cls ≠ "java/lang/invoke/VarHandle" ∧ (parseMethodDescriptor yX10_product.desc).map (fun d => d.parameters.length) = some 3 := by decide +kernel
theorem zd_X10_right : yX10_right.cls ≠ "java/lang/invoke/MethodHandle" ∧ yX10_right.cls ≠ "java/lang/invoke/VarHandle" ∧ (parseMethodDescriptor yX10_right.desc).map (fun d => d.parameters.length) = some 6 := by decide +kernel
theorem zd_X10_rule : yX10_rule.cls ≠ "java/lang/invoke/MethodHandle" ∧ yX10_rule.cls ≠ "java/lang/invoke/VarHandle" ∧ (parseMethodDescriptor yX10_rule.desc).map (fun d => d.parameters.length) = some 2 := by decide +kernel
theorem zd_X10_signAt : yX10_signAt.cls ≠ "java/lang/invoke/MethodHandle" ∧ yX10_signAt.cls ≠ "java/lang/invoke/VarHandle" ∧ (parseMethodDescriptor yX10_signAt.desc).map (fun d => d.parameters.length) = some 2 := by decide +kernel
theorem zd_X10_spared : yX10_spared.cls ≠ "java/lang/invoke/MethodHandle" ∧ yX10_spared.cls ≠ "java/lang/invoke/VarHandle" ∧ (parseMethodDescriptor yX10_spared.desc).map (fun d => d.parameters.length) = some 1 := by decide +kernel
theorem zd_X10_today : yX10_today.cls ≠ "java/lang/invoke/MethodHandle" ∧ yX10_today.cls ≠ "java/lang/invoke/VarHandle" ∧ (parseMethodDescriptor yX10_today.desc).map (fun d => d.parameters.length) = some 1 := by decide +kernel
theorem zd_X10_told : yX10_told.cls ≠ "java/lang/invoke/MethodHandle" ∧ yX10_told.cls ≠ "java/lang/invoke/VarHandle" ∧ (parseMethodDescriptor yX10_told.desc).map (fun d => d.parameters.length) = some 1 := by decide +kernel
theorem zd_X10_unrule : yX10_unrule.cls ≠ "java/lang/invoke/MethodHandle" ∧ yX10_unrule.cls ≠ "java/lang/invoke/VarHandle" ∧ (parseMethodDescriptor yX10_unrule.desc).map (fun d => d.parameters.length) = some 1 := by decide +kernel
theorem zd_X10_use : yX10_use.cls ≠ "java/lang/invoke/MethodHandle" ∧ yX10_use.cls ≠ "java/lang/invoke/VarHandle" ∧ (parseMethodDescriptor yX10_use.desc).map (fun d => d.parameters.length) = some 4 := by decide +kernel
theorem zd_X10_when : yX10_when.cls ≠ "java/lang/invoke/MethodHandle" ∧ yX10_when.cls ≠ "java/lang/invoke/VarHandle" ∧ (parseMethodDescriptor yX10_when.desc).map (fun d => d.parameters.length) = some 1 := by decide +kernel
theorem zd_X10_without : yX10_without.cls ≠ "java/lang/invoke/MethodHandle" ∧ yX10_without.cls ≠ "java/lang/invoke/VarHandle" ∧ (parseMethodDescriptor yX10_without.desc).map (fun d => d.parameters.length) = some 1 := by decide +kernel
theorem zd_X11_all : yX11_all.cls ≠ "java/lang/invoke/MethodHandle" ∧ yX11_all.cls ≠ "java/lang/invoke/VarHandle" ∧ (parseMethodDescriptor yX11_all.desc).map (fun d => d.parameters.length) = some 1 := by decide +kernel
theorem zd_X11_amount : yX11_amount.cls ≠ "java/lang/invoke/MethodHandle" ∧ yX11_amount.cls ≠ "java/lang/invoke/VarHandle" ∧ (parseMethodDescriptor yX11_amount.desc).map (fun d => d.parameters.length) = some 2 := by decide +kernel
theorem zd_X11_as : yX11_as.cls ≠ "java/lang/invoke/MethodHandle" ∧ yX11_as.cls ≠ "java/lang/invoke/VarHandle" ∧ (parseMethodDescriptor yX11_as.desc).map (fun d => d.parameters.length) = some 2 := by decide +kernel
theorem zd_X11_at : yX11_at.cls ≠ "java/lang/invoke/MethodHandle" ∧ yX11_at.cls ≠ "java/lang/invoke/VarHandle" ∧ (parseMethodDescriptor yX11_at.desc).map (fun d => d.parameters.length) = some 2 := by decide +kernel
theorem zd_X11_back : yX11_back.cls ≠ "java/lang/invoke/MethodHandle" ∧ yX11_back.cls ≠ "java/lang/invoke/VarHandle" ∧ (parseMethodDescriptor yX11_back.desc).map (fun d => d.parameters.length) = some 0 := by decide +kernel
theorem zd_X11_by : yX11_by.cls ≠ "java/lang/invoke/MethodHandle" ∧ yX11_by.cls ≠ "java/lang/invoke/VarHandle" ∧ (parseMethodDescriptor yX11_by.desc).map (fun d => d.parameters.length) = some 1 := by decide +kernel
theorem zd_X11_canTake : yX11_canTake.cls ≠ "java/lang/invoke/MethodHandle" ∧ yX11_canTake.cls ≠ "java/lang/invoke/VarHandle" ∧ (parseMethodDescriptor yX11_canTake.desc).map (fun d => d.parameters.length) = some 3 := by decide +kernel
theorem zd_X11_cost : yX11_cost.cls ≠ "java/lang/invoke/MethodHandle" ∧ yX11_cost.cls ≠ "java/lang/invoke/VarHandle" ∧ (parseMethodDescriptor yX11_cost.desc).map (fun d => d.parameters.length) = some 0 := by decide +kernel
theorem zd_X11_counts : yX11_counts.cls ≠ "java/lang/invoke/MethodHandle" ∧ yX11_counts.cls ≠ "java/lang/invoke/VarHandle" ∧ (parseMethodDescriptor yX11_counts.desc).map (fun d => d.parameters.length) = some 1 := by decide +kernel
theorem zd_X11_drop : yX11_drop.cls ≠ "java/lang/invoke/MethodHandle" ∧ yX11_drop.cls ≠ "java/lang/invoke/VarHandle" ∧ (parseMethodDescriptor yX11_drop.desc).map (fun d => d.parameters.length) = some 1 := by decide +kernel
theorem zd_X11_find : yX11_find.cls ≠ "java/lang/invoke/MethodHandle" ∧ yX11_find.cls ≠ "java/lang/invoke/VarHandle" ∧ (parseMethodDescriptor yX11_find.desc).map (fun d => d.parameters.length) = some 3 := by decide +kernel
theorem zd_X11_findAt : yX11_findAt.cls ≠ "java/lang/invoke/MethodHandle" ∧ yX11_findAt.cls ≠ "java/lang/invoke/VarHandle" ∧ (parseMethodDescriptor yX11_findAt.desc).map (fun d => d.parameters.length) = some 2 := by decide +kernel
theorem zd_X11_finding : yX11_finding.cls ≠ "java/lang/invoke/MethodHandle" ∧ yX11_finding.cls ≠ "java/lang/invoke/VarHandle" ∧ (parseMethodDescriptor yX11_finding.desc).map (fun d => d.parameters.length) = some 1 := by decide +kernel
theorem zd_X11_finds : yX11_finds.cls ≠ "java/lang/invoke/MethodHandle" ∧ yX11_finds.cls ≠ "java/lang/invoke/VarHandle" ∧ (parseMethodDescriptor yX11_finds.desc).map (fun d => d.parameters.length) = some 1 := by decide +kernel
theorem zd_X11_firstRule : yX11_firstRule.cls ≠ "java/lang/invoke/MethodHandle" ∧ yX11_firstRule.cls ≠ "java/lang/invoke/VarHandle" ∧ (parseMethodDescriptor yX11_firstRule.desc).map (fun d => d.parameters.length) = some 1 := by decide +kernel
theorem zd_X11_fits : yX11_fits.cls ≠ "java/lang/invoke/MethodHandle" ∧ yX11_fits.cls ≠ "java/lang/invoke/VarHandle" ∧ (parseMethodDescriptor yX11_fits.desc).map (fun d => d.parameters.length) = some 2 := by decide +kernel
theorem zd_X11_fitsOf : yX11_fitsOf.cls ≠ "java/lang/invoke/MethodHandle" ∧ yX11_fitsOf.cls ≠ "java/lang/invoke/VarHandle" ∧ (parseMethodDescriptor yX11_fitsOf.desc).map (fun d => d.parameters.length) = some 2 := by decide +kernel
theorem zd_X11_goes : yX11_goes.cls ≠ "java/lang/invoke/MethodHandle" ∧ yX11_goes.cls ≠ "java/lang/invoke/VarHandle" ∧ (parseMethodDescriptor yX11_goes.desc).map (fun d => d.parameters.length) = some 1 := by decide +kernel
theorem zd_X11_goesTo : yX11_goesTo.cls ≠ "java/lang/invoke/MethodHandle" ∧ yX11_goesTo.cls ≠ "java/lang/invoke/VarHandle" ∧ (parseMethodDescriptor yX11_goesTo.desc).map (fun d => d.parameters.length) = some 1 := by decide +kernel
theorem zd_X11_has : yX11_has.cls ≠ "java/lang/invoke/MethodHandle" ∧ yX11_has.cls ≠ "java/lang/invoke/VarHandle" ∧ (parseMethodDescriptor yX11_has.desc).map (fun d => d.parameters.length) = some 2 := by decide +kernel
theorem zd_X11_hasSign : yX11_hasSign.cls ≠ "java/lang/invoke/MethodHandle" ∧ yX11_hasSign.cls ≠ "java/lang/invoke/VarHandle" ∧ (parseMethodDescriptor yX11_hasSign.desc).map (fun d => d.parameters.length) = some 2 := by decide +kernel
theorem zd_X11_host : yX11_host.cls ≠ "java/lang/invoke/MethodHandle" ∧ yX11_host.cls ≠ "java/lang/invoke/VarHandle" ∧ (parseMethodDescriptor yX11_host.desc).map (fun d => d.parameters.length) = some 2 := by decide +kernel
theorem zd_X11_hostAt : yX11_hostAt.cls ≠ "java/lang/invoke/MethodHandle" ∧ yX11_hostAt.cls ≠ "java/lang/invoke/VarHandle" ∧ (parseMethodDescriptor yX11_hostAt.desc).map (fun d => d.parameters.length) = some 2 := by decide +kernel
theorem zd_X11_init : yX11_init.cls ≠ "java/lang/invoke/MethodHandle" ∧ yX11_init.cls ≠ "java/lang/invoke/VarHandle" ∧ (parseMethodDescriptor yX11_init.desc).map (fun d => d.parameters.length) = some 0 := by decide +kernel
theorem zd_X11_isFind : yX11_isFind.cls ≠ "java/lang/invoke/MethodHandle" ∧ yX11_isFind.cls ≠ "java/lang/invoke/VarHandle" ∧ (parseMethodDescriptor yX11_isFind.desc).map (fun d => d.parameters.length) = some 1 := by decide +kernel
theorem zd_X11_isFresh : yX11_isFresh.cls ≠ "java/lang/invoke/MethodHandle" ∧ yX11_isFresh.cls ≠ "java/lang/invoke/VarHandle" ∧ (parseMethodDescriptor yX11_isFresh.desc).map (fun d => d.parameters.length) = some 1 := by decide +kernel
theorem zd_X11_isHost : yX11_isHost.cls ≠ "java/lang/invoke/MethodHandle" ∧ yX11_isHost.cls ≠ "java/lang/invoke/VarHandle" ∧ (parseMethodDescriptor yX11_isHost.desc).map (fun d => d.parameters.length) = some 1 := by decide +kernel
theorem zd_X11_isIn : yX11_isIn.cls ≠ "java/lang/invoke/MethodHandle" ∧ yX11_isIn.cls ≠ "java/lang/invoke/VarHandle" ∧ (parseMethodDescriptor yX11_isIn.desc).map (fun d => d.parameters.length) = some 3 := by decide +kernel
theorem zd_X11_isOn : yX11_isOn.cls ≠ "java/lang/invoke/MethodHandle" ∧ yX11_isOn.cls ≠ "java/lang/invoke/VarHandle" ∧ (parseMethodDescriptor yX11_isOn.desc).map (fun d => d.parameters.length) = some 2 := by decide +kernel
theorem zd_X11_isPart : yX11_isPart.cls ≠ "java/lang/invoke/MethodHandle" ∧ yX11_isPart.cls ≠ "java/lang/invoke/VarHandle" ∧ (parseMethodDescriptor yX11_isPart.desc).map (fun d => d.parameters.length) = some 2 := by decide +kernel
theorem zd_X11_isProduct : yX11_isProduct.cls ≠ "java/lang/invoke/MethodHandle" ∧ yX11_isProduct.cls ≠ "java/lang/invoke/VarHandle" ∧ (parseMethodDescriptor yX11_isProduct.desc).map (fun d => d.parameters.length) = some 1 := by decide +kernel
theorem zd_X11_isRight : yX11_isRight.cls ≠ "java/lang/invoke/MethodHandle" ∧ yX11_isRight.cls ≠ "java/lang/invoke/VarHandle" ∧ (parseMethodDescriptor yX11_isRight.desc).map (fun d => d.parameters.length) = some 1 := by decide +kernel
theorem zd_X11_isRule : yX11_isRule.cls ≠ "java/lang/invoke/MethodHandle" ∧ yX11_isRule.cls ≠ "java/lang/invoke/VarHandle" ∧ (parseMethodDescriptor yX11_isRule.desc).map (fun d => d.parameters.length) = some 1 := by decide +kernel
theorem zd_X11_keep : yX11_keep.cls ≠ "java/lang/invoke/MethodHandle" ∧ yX11_keep.cls ≠ "java/lang/invoke/VarHandle" ∧ (parseMethodDescriptor yX11_keep.desc).map (fun d => d.parameters.length) = some 0 := by decide +kernel
theorem zd_X11_kept : yX11_kept.cls ≠ "java/lang/invoke/MethodHandle" ∧ yX11_kept.cls ≠ "java/lang/invoke/VarHandle" ∧ (parseMethodDescriptor yX11_kept.desc).map (fun d => d.parameters.length) = some 1 := by decide +kernel
theorem zd_X11_lack : yX11_lack.cls ≠ "java/lang/invoke/MethodHandle" ∧ yX11_lack.cls ≠ "java/lang/invoke/VarHandle" ∧ (parseMethodDescriptor yX11_lack.desc).map (fun d => d.parameters.length) = some 0 := by decide +kernel
theorem zd_X11_lackOn : yX11_lackOn.cls ≠ "java/lang/invoke/MethodHandle" ∧ yX11_lackOn.cls ≠ "java/lang/invoke/VarHandle" ∧ (parseMethodDescriptor yX11_lackOn.desc).map (fun d => d.parameters.length) = some 3 := by decide +kernel
theorem zd_X11_letter : yX11_letter.cls ≠ "java/lang/invoke/MethodHandle" ∧ yX11_letter.cls ≠ "java/lang/invoke/VarHandle" ∧ (parseMethodDescriptor yX11_letter.desc).map (fun d => d.parameters.length) = some 1 := by decide +kernel
theorem zd_X11_makeSuite : yX11_makeSuite.cls ≠ "java/lang/invoke/MethodHandle" ∧ yX11_makeSuite.cls ≠ "java/lang/invoke/VarHandle" ∧ (parseMethodDescriptor yX11_makeSuite.desc).map (fun d => d.parameters.length) = some 2 := by decide +kernel
theorem zd_X11_match : yX11_match.cls ≠ "java/lang/invoke/MethodHandle" ∧ yX11_match.cls ≠ "java/lang/invoke/VarHandle" ∧ (parseMethodDescriptor yX11_match.desc).map (fun d => d.parameters.length) = some 4 := by decide +kernel
theorem zd_X11_may : yX11_may.cls ≠ "java/lang/invoke/MethodHandle" ∧ yX11_may.cls ≠ "java/lang/invoke/VarHandle" ∧ (parseMethodDescriptor yX11_may.desc).map (fun d => d.parameters.length) = some 2 := by decide +kernel
theorem zd_X11_measure : yX11_measure.cls ≠ "java/lang/invoke/MethodHandle" ∧ yX11_measure.cls ≠ "java/lang/invoke/VarHandle" ∧ (parseMethodDescriptor yX11_measure.desc).map (fun d => d.parameters.length) = some 2 := by decide +kernel
theorem zd_X11_measureOf : yX11_measureOf.cls ≠ "java/lang/invoke/MethodHandle" ∧ yX11_measureOf.cls ≠ "java/lang/invoke/VarHandle" ∧ (parseMethodDescriptor yX11_measureOf.desc).map (fun d => d.parameters.length) = some 2 := by decide +kernel
theorem zd_X11_mostUses : yX11_mostUses.cls ≠ "java/lang/invoke/MethodHandle" ∧ yX11_mostUses.cls ≠ "java/lang/invoke/VarHandle" ∧ (parseMethodDescriptor yX11_mostUses.desc).map (fun d => d.parameters.length) = some 1 := by decide +kernel
theorem zd_X11_moved : yX11_moved.cls ≠ "java/lang/invoke/MethodHandle" ∧ yX11_moved.cls ≠ "java/lang/invoke/VarHandle" ∧ (parseMethodDescriptor yX11_moved.desc).map (fun d => d.parameters.length) = some 2 := by decide +kernel
theorem zd_X11_needs : yX11_needs.cls ≠ "java/lang/invoke/MethodHandle" ∧ yX11_needs.cls ≠ "java/lang/invoke/VarHandle" ∧ (parseMethodDescriptor yX11_needs.desc).map (fun d => d.parameters.length) = some 0 := by decide +kernel
theorem zd_X11_needsUpTo : yX11_needsUpTo.cls ≠ "java/lang/invoke/MethodHandle" ∧ yX11_needsUpTo.cls ≠ "java/lang/invoke/VarHandle" ∧ (parseMethodDescriptor yX11_needsUpTo.desc).map (fun d => d.parameters.length) = some 3 := by decide +kernel
theorem zd_X11_nextDay : yX11_nextDay.cls ≠ "java/lang/invoke/MethodHandle" ∧ yX11_nextDay.cls ≠ "java/lang/invoke/VarHandle" ∧ (parseMethodDescriptor yX11_nextDay.desc).map (fun d => d.parameters.length) = some 1 := by decide +kernel
theorem zd_X11_of : yX11_of.cls ≠ "java/lang/invoke/MethodHandle" ∧ yX11_of.cls ≠ "java/lang/invoke/VarHandle" ∧ (parseMethodDescriptor yX11_of.desc).map (fun d => d.parameters.length) = some 2 := by decide +kernel
theorem zd_X11_peak : yX11_peak.cls ≠ "java/lang/invoke/MethodHandle" ∧ yX11_peak.cls ≠ "java/lang/invoke/VarHandle" ∧ (parseMethodDescriptor yX11_peak.desc).map (fun d => d.parameters.length) = some 1 := by decide +kernel
theorem zd_X11_product : yX11_product.cls ≠ "java/lang/invoke/MethodHandle" ∧ yX11_product.cls ≠ "java/lang/invoke/VarHandle" ∧ (parseMethodDescriptor yX11_product.desc).map (fun d => d.parameters.length) = some 3 := by decide +kernel
theorem zd_X11_productAt : yX11_productAt.cls ≠ "java/lang/invoke/MethodHandle" ∧ yX11_productAt.cls ≠ "java/lang/invoke/VarHandle" ∧ (parseMethodDescriptor yX11_productAt.desc).map (fun d => d.parameters.length) = some 2 := by decide +kernel
theorem zd_X11_remove : yX11_remove.cls ≠ "java/lang/invoke/MethodHandle" ∧ yX11_remove.cls ≠ "java/lang/invoke/VarHandle" ∧ (parseMethodDescriptor yX11_remove.desc).map (fun d => d.parameters.length) = some 4 := by decide +kernel
theorem zd_X11_right : yX11_right.cls ≠ "java/lang/invoke/MethodHandle" ∧ yX11_right.cls ≠ "java/lang/invoke/VarHandle" ∧ (parseMethodDescriptor yX11_right.desc).map (fun d => d.parameters.length) = some 6 := by decide +kernel
theorem zd_X11_rightAt : yX11_rightAt.cls ≠ "java/lang/invoke/MethodHandle" ∧ yX11_rightAt.cls ≠ "java/lang/invoke/VarHandle" ∧ (parseMethodDescriptor yX11_rightAt.desc).map (fun d => d.parameters.length) = some 2 := by decide +kernel
theorem zd_X11_rule : yX11_rule.cls ≠ "java/lang/invoke/MethodHandle" ∧ yX11_rule.cls ≠ "java/lang/invoke/VarHandle" ∧ (parseMethodDescriptor yX11_rule.desc).map (fun d => d.parameters.length) = some 2 := by decide +kernel
theorem zd_X11_ruleAt : yX11_ruleAt.cls ≠ "java/lang/invoke/MethodHandle" ∧ yX11_ruleAt.cls ≠ "java/lang/invoke/VarHandle" ∧ (parseMethodDescriptor yX11_ruleAt.desc).map (fun d => d.parameters.length) = some 2 := by decide +kernel
theorem zd_X11_spared : yX11_spared.cls ≠ "java/lang/invoke/MethodHandle" ∧ yX11_spared.cls ≠ "java/lang/invoke/VarHandle" ∧ (parseMethodDescriptor yX11_spared.desc).map (fun d => d.parameters.length) = some 1 := by decide +kernel
theorem zd_X11_tellHad : yX11_tellHad.cls ≠ "java/lang/invoke/MethodHandle" ∧ yX11_tellHad.cls ≠ "java/lang/invoke/VarHandle" ∧ (parseMethodDescriptor yX11_tellHad.desc).map (fun d => d.parameters.length) = some 0 := by decide +kernel
theorem zd_X11_today : yX11_today.cls ≠ "java/lang/invoke/MethodHandle" ∧ yX11_today.cls ≠ "java/lang/invoke/VarHandle" ∧ (parseMethodDescriptor yX11_today.desc).map (fun d => d.parameters.length) = some 1 := by decide +kernel
theorem zd_X11_told : yX11_told.cls ≠ "java/lang/invoke/MethodHandle" ∧ yX11_told.cls ≠ "java/lang/invoke/VarHandle" ∧ (parseMethodDescriptor yX11_told.desc).map (fun d => d.parameters.length) = some 1 := by decide +kernel
theorem zd_X11_unrule : yX11_unrule.cls ≠ "java/lang/invoke/MethodHandle" ∧ yX11_unrule.cls ≠ "java/lang/invoke/VarHandle" ∧ (parseMethodDescriptor yX11_unrule.desc).map (fun d => d.parameters.length) = some 1 := by decide +kernel
theorem zd_X11_use : yX11_use.cls ≠ "java/lang/invoke/MethodHandle" ∧ yX11_use.cls ≠ "java/lang/invoke/VarHandle" ∧ (parseMethodDescriptor yX11_use.desc).map (fun d => d.parameters.length) = some 4 := by decide +kernel
theorem zd_X11_useAt : yX11_useAt.cls ≠ "java/lang/invoke/MethodHandle" ∧ yX11_useAt.cls ≠ "java/lang/invoke/VarHandle" ∧ (parseMethodDescriptor yX11_useAt.desc).map (fun d => d.parameters.length) = some 2 := by decide +kernel
theorem zd_X11_usesAt : yX11_usesAt.cls ≠ "java/lang/invoke/MethodHandle" ∧ yX11_usesAt.cls ≠ "java/lang/invoke/VarHandle" ∧ (parseMethodDescriptor yX11_usesAt.desc).map (fun d => d.parameters.length) = some 2 := by decide +kernel
theorem zd_X11_when : yX11_when.cls ≠ "java/lang/invoke/MethodHandle" ∧ yX11_when.cls ≠ "java/lang/invoke/VarHandle" ∧ (parseMethodDescriptor yX11_when.desc).map (fun d => d.parameters.length) = some 1 := by decide +kernel
theorem zd_X11_without : yX11_without.cls ≠ "java/lang/invoke/MethodHandle" ∧ yX11_without.cls ≠ "java/lang/invoke/VarHandle" ∧ (parseMethodDescriptor yX11_without.desc).map (fun d => d.parameters.length) = some 1 := by decide +kernel
theorem zd_X1_add : yX1_add.cls ≠ "java/lang/invoke/MethodHandle" ∧ yX1_add.cls ≠ "java/lang/invoke/VarHandle" ∧ (parseMethodDescriptor yX1_add.desc).map (fun d => d.parameters.length) = some 4 := by decide +kernel
theorem zd_X1_copyFrom : yX1_copyFrom.cls ≠ "java/lang/invoke/MethodHandle" ∧ yX1_copyFrom.cls ≠ "java/lang/invoke/VarHandle" ∧ (parseMethodDescriptor yX1_copyFrom.desc).map (fun d => d.parameters.length) = some 1 := by decide +kernel
theorem zd_X1_init : yX1_init.cls ≠ "java/lang/invoke/MethodHandle" ∧ yX1_init.cls ≠ "java/lang/invoke/VarHandle" ∧ (parseMethodDescriptor yX1_init.desc).map (fun d => d.parameters.length) = some 0 := by decide +kernel
theorem zd_X1_isOne : yX1_isOne.cls ≠ "java/lang/invoke/MethodHandle" ∧ yX1_isOne.cls ≠ "java/lang/invoke/VarHandle" ∧ (parseMethodDescriptor yX1_isOne.desc).map (fun d => d.parameters.length) = some 1 := by decide +kernel
theorem zd_X1_remove : yX1_remove.cls ≠ "java/lang/invoke/MethodHandle" ∧ yX1_remove.cls ≠ "java/lang/invoke/VarHandle" ∧ (parseMethodDescriptor yX1_remove.desc).map (fun d => d.parameters.length) = some 1 := by decide +kernel
theorem zd_X2_cellOf : yX2_cellOf.cls ≠ "java/lang/invoke/MethodHandle" ∧ yX2_cellOf.cls ≠ "java/lang/invoke/VarHandle" ∧ (parseMethodDescriptor yX2_cellOf.desc).map (fun d => d.parameters.length) = some 2 := by decide +kernel
theorem zd_X2_coresByEight : yX2_coresByEight.cls ≠ "java/lang/invoke/MethodHandle" ∧ yX2_coresByEight.cls ≠ "java/lang/invoke/VarHandle" ∧ (parseMethodDescriptor yX2_coresByEight.desc).map (fun d => d.parameters.length) = some 2 := by decide +kernel
theorem zd_X2_fill : yX2_fill.cls ≠ "java/lang/invoke/MethodHandle" ∧ yX2_fill.cls ≠ "java/lang/invoke/VarHandle" ∧ (parseMethodDescriptor yX2_fill.desc).map (fun d => d.parameters.length) = some 1 := by decide +kernel
theorem zd_X2_hadParts : yX2_hadParts.cls ≠ "java/lang/invoke/MethodHandle" ∧ yX2_hadParts.cls ≠ "java/lang/invoke/VarHandle" ∧ (parseMethodDescriptor yX2_hadParts.desc).map (fun d => d.parameters.length) = some 3 := by decide +kernel
theorem zd_X2_howManyHosts : yX2_howManyHosts.cls ≠ "java/lang/invoke/MethodHandle" ∧ yX2_howManyHosts.cls ≠ "java/lang/invoke/VarHandle" ∧ (parseMethodDescriptor yX2_howManyHosts.desc).map (fun d => d.parameters.length) = some 2 := by decide +kernel
theorem zd_X2_howManyPersons : yX2_howManyPersons.cls ≠ "java/lang/invoke/MethodHandle" ∧ yX2_howManyPersons.cls ≠ "java/lang/invoke/VarHandle" ∧ (parseMethodDescriptor yX2_howManyPersons.desc).map (fun d => d.parameters.length) = some 2 := by decide +kernel
theorem zd_X2_init : yX2_init.cls ≠ "java/lang/invoke/MethodHandle" ∧ yX2_init.cls ≠ "java/lang/invoke/VarHandle" ∧ (parseMethodDescriptor yX2_init.desc).map (fun d => d.parameters.length) = some 0 := by decide +kernel
theorem zd_X2_leaveOut : yX2_leaveOut.cls ≠ "java/lang/invoke/MethodHandle" ∧ yX2_leaveOut.cls ≠ "java/lang/invoke/VarHandle" ∧ (parseMethodDescriptor yX2_leaveOut.desc).map (fun d => d.parameters.length) = some 1 := by decide +kernel
theorem zd_X2_makeSuite : yX2_makeSuite.cls ≠ "java/lang/invoke/MethodHandle" ∧ yX2_makeSuite.cls ≠ "java/lang/invoke/VarHandle" ∧ (parseMethodDescriptor yX2_makeSuite.desc).map (fun d => d.parameters.length) = some 3 := by decide +kernel
theorem zd_X2_makeSuites : yX2_makeSuites.cls ≠ "java/lang/invoke/MethodHandle" ∧ yX2_makeSuites.cls ≠ "java/lang/invoke/VarHandle" ∧ (parseMethodDescriptor yX2_makeSuites.desc).map (fun d => d.parameters.length) = some 2 := by decide +kernel
theorem zd_X2_raise : yX2_raise.cls ≠ "java/lang/invoke/MethodHandle" ∧ yX2_raise.cls ≠ "java/lang/invoke/VarHandle" ∧ (parseMethodDescriptor yX2_raise.desc).map (fun d => d.parameters.length) = some 3 := by decide +kernel
theorem zd_X2_versionAt : yX2_versionAt.cls ≠ "java/lang/invoke/MethodHandle" ∧ yX2_versionAt.cls ≠ "java/lang/invoke/VarHandle" ∧ (parseMethodDescriptor yX2_versionAt.desc).map (fun d => d.parameters.length) = some 2 := by decide +kernel
theorem zd_X3_add : yX3_add.cls ≠ "java/lang/invoke/MethodHandle" ∧ yX3_add.cls ≠ "java/lang/invoke/VarHandle" ∧ (parseMethodDescriptor yX3_add.desc).map (fun d => d.parameters.length) = some 2 := by decide +kernel
theorem zd_X3_copyFrom : yX3_copyFrom.cls ≠ "java/lang/invoke/MethodHandle" ∧ yX3_copyFrom.cls ≠ "java/lang/invoke/VarHandle" ∧ (parseMethodDescriptor yX3_copyFrom.desc).map (fun d => d.parameters.length) = some 1 := by decide +kernel
theorem zd_X3_init : yX3_init.cls ≠ "java/lang/invoke/MethodHandle" ∧ yX3_init.cls ≠ "java/lang/invoke/VarHandle" ∧ (parseMethodDescriptor yX3_init.desc).map (fun d => d.parameters.length) = some 0 := by decide +kernel
theorem zd_X3_isOne : yX3_isOne.cls ≠ "java/lang/invoke/MethodHandle" ∧ yX3_isOne.cls ≠ "java/lang/invoke/VarHandle" ∧ (parseMethodDescriptor yX3_isOne.desc).map (fun d => d.parameters.length) = some 1 := by decide +kernel
theorem zd_X4_add : yX4_add.cls ≠ "java/lang/invoke/MethodHandle" ∧ yX4_add.cls ≠ "java/lang/invoke/VarHandle" ∧ (parseMethodDescriptor yX4_add.desc).map (fun d => d.parameters.length) = some 1 := by decide +kernel
theorem zd_X4_areName : yX4_areName.cls ≠ "java/lang/invoke/MethodHandle" ∧ yX4_areName.cls ≠ "java/lang/invoke/VarHandle" ∧ (parseMethodDescriptor yX4_areName.desc).map (fun d => d.parameters.length) = some 0 := by decide +kernel
theorem zd_X4_arePattern : yX4_arePattern.cls ≠ "java/lang/invoke/MethodHandle" ∧ yX4_arePattern.cls ≠ "java/lang/invoke/VarHandle" ∧ (parseMethodDescriptor yX4_arePattern.desc).map (fun d => d.parameters.length) = some 0 := by decide +kernel
theorem zd_X4_init : yX4_init.cls ≠ "java/lang/invoke/MethodHandle" ∧ yX4_init.cls ≠ "java/lang/invoke/VarHandle" ∧ (parseMethodDescriptor yX4_init.desc).map (fun d => d.parameters.length) = some 0 := by decide +kernel
theorem zd_X4_take : yX4_take.cls ≠ "java/lang/invoke/MethodHandle" ∧ yX4_take.cls ≠ "java/lang/invoke/VarHandle" ∧ (parseMethodDescriptor yX4_take.desc).map (fun d => d.parameters.length) = some 0 := by decide +kernel
theorem zd_X5_begin : yX5_begin.cls ≠ "java/lang/invoke/MethodHandle" ∧ yX5_begin.cls ≠ "java/lang/invoke/VarHandle" ∧ (parseMethodDescriptor yX5_begin.desc).map (fun d => d.parameters.length) = some 2 := by decide +kernel
theorem zd_X5_cheapest : yX5_cheapest.cls ≠ "java/lang/invoke/MethodHandle" ∧ yX5_cheapest.cls ≠ "java/lang/invoke/VarHandle" ∧ (parseMethodDescriptor yX5_cheapest.desc).map (fun d => d.parameters.length) = some 3 := by decide +kernel
theorem zd_X5_init : yX5_init.cls ≠ "java/lang/invoke/MethodHandle" ∧ yX5_init.cls ≠ "java/lang/invoke/VarHandle" ∧ (parseMethodDescriptor yX5_init.desc).map (fun d => d.parameters.length) = some 0 := by decide +kernel
theorem zd_X5_leaveOut : yX5_leaveOut.cls ≠ "java/lang/invoke/MethodHandle" ∧ yX5_leaveOut.cls ≠ "java/lang/invoke/VarHandle" ∧ (parseMethodDescriptor yX5_leaveOut.desc).map (fun d => d.parameters.length) = some 1 := by decide +kernel
theorem zd_X5_serve : yX5_serve.cls ≠ "java/lang/invoke/MethodHandle" ∧ yX5_serve.cls ≠ "java/lang/invoke/VarHandle" ∧ (parseMethodDescriptor yX5_serve.desc).map (fun d => d.parameters.length) = some 3 := by decide +kernel
theorem zd_X5_serveAll : yX5_serveAll.cls ≠ "java/lang/invoke/MethodHandle" ∧ yX5_serveAll.cls ≠ "java/lang/invoke/VarHandle" ∧ (parseMethodDescriptor yX5_serveAll.desc).map (fun d => d.parameters.length) = some 2 := by decide +kernel
theorem zd_X5_serveProduct : yX5_serveProduct.cls ≠ "java/lang/invoke/MethodHandle" ∧ yX5_serveProduct.cls ≠ "java/lang/invoke/VarHandle" ∧ (parseMethodDescriptor yX5_serveProduct.desc).map (fun d => d.parameters.length) = some 3 := by decide +kernel
theorem zd_X6_add : yX6_add.cls ≠ "java/lang/invoke/MethodHandle" ∧ yX6_add.cls ≠ "java/lang/invoke/VarHandle" ∧ (parseMethodDescriptor yX6_add.desc).map (fun d => d.parameters.length) = some 3 := by decide +kernel
theorem zd_X6_copyFrom : yX6_copyFrom.cls ≠ "java/lang/invoke/MethodHandle" ∧ yX6_copyFrom.cls ≠ "java/lang/invoke/VarHandle" ∧ (parseMethodDescriptor yX6_copyFrom.desc).map (fun d => d.parameters.length) = some 1 := by decide +kernel
theorem zd_X6_init : yX6_init.cls ≠ "java/lang/invoke/MethodHandle" ∧ yX6_init.cls ≠ "java/lang/invoke/VarHandle" ∧ (parseMethodDescriptor yX6_init.desc).map (fun d => d.parameters.length) = some 0 := by decide +kernel
theorem zd_X6_isFree : yX6_isFree.cls ≠ "java/lang/invoke/MethodHandle" ∧ yX6_isFree.cls ≠ "java/lang/invoke/VarHandle" ∧ (parseMethodDescriptor yX6_isFree.desc).map (fun d => d.parameters.length) = some 1 := by decide +kernel
theorem zd_X6_isOne : yX6_isOne.cls ≠ "java/lang/invoke/MethodHandle" ∧ yX6_isOne.cls ≠ "java/lang/invoke/VarHandle" ∧ (parseMethodDescriptor yX6_isOne.desc).map (fun d => d.parameters.length) = some 1 := by decide +kernel
theorem zd_X6_isSuite : yX6_isSuite.cls ≠ "java/lang/invoke/MethodHandle" ∧ yX6_isSuite.cls ≠ "java/lang/invoke/VarHandle" ∧ (parseMethodDescriptor yX6_isSuite.desc).map (fun d => d.parameters.length) = some 1 := by decide +kernel
theorem zd_X7_add : yX7_add.cls ≠ "java/lang/invoke/MethodHandle" ∧ yX7_add.cls ≠ "java/lang/invoke/VarHandle" ∧ (parseMethodDescriptor yX7_add.desc).map (fun d => d.parameters.length) = some 6 := by decide +kernel
theorem zd_X7_copyFrom : yX7_copyFrom.cls ≠ "java/lang/invoke/MethodHandle" ∧ yX7_copyFrom.cls ≠ "java/lang/invoke/VarHandle" ∧ (parseMethodDescriptor yX7_copyFrom.desc).map (fun d => d.parameters.length) = some 1 := by decide +kernel
theorem zd_X7_init : yX7_init.cls ≠ "java/lang/invoke/MethodHandle" ∧ yX7_init.cls ≠ "java/lang/invoke/VarHandle" ∧ (parseMethodDescriptor yX7_init.desc).map (fun d => d.parameters.length) = some 0 := by decide +kernel
theorem zd_X7_isOne : yX7_isOne.cls ≠ "java/lang/invoke/MethodHandle" ∧ yX7_isOne.cls ≠ "java/lang/invoke/VarHandle" ∧ (parseMethodDescriptor yX7_isOne.desc).map (fun d => d.parameters.length) = some 1 := by decide +kernel
theorem zd_X7_isServing : yX7_isServing.cls ≠ "java/lang/invoke/MethodHandle" ∧ yX7_isServing.cls ≠ "java/lang/invoke/VarHandle" ∧ (parseMethodDescriptor yX7_isServing.desc).map (fun d => d.parameters.length) = some 3 := by decide +kernel
theorem zd_X8_add : yX8_add.cls ≠ "java/lang/invoke/MethodHandle" ∧ yX8_add.cls ≠ "java/lang/invoke/VarHandle" ∧ (parseMethodDescriptor yX8_add.desc).map (fun d => d.parameters.length) = some 3 := by decide +kernel
theorem zd_X8_copyFrom : yX8_copyFrom.cls ≠ "java/lang/invoke/MethodHandle" ∧ yX8_copyFrom.cls ≠ "java/lang/invoke/VarHandle" ∧ (parseMethodDescriptor yX8_copyFrom.desc).map (fun d => d.parameters.length) = some 1 := by decide +kernel
theorem zd_X8_init : yX8_init.cls ≠ "java/lang/invoke/MethodHandle" ∧ yX8_init.cls ≠ "java/lang/invoke/VarHandle" ∧ (parseMethodDescriptor yX8_init.desc).map (fun d => d.parameters.length) = some 0 := by decide +kernel
theorem zd_X8_isOne : yX8_isOne.cls ≠ "java/lang/invoke/MethodHandle" ∧ yX8_isOne.cls ≠ "java/lang/invoke/VarHandle" ∧ (parseMethodDescriptor yX8_isOne.desc).map (fun d => d.parameters.length) = some 1 := by decide +kernel
theorem zd_X8_remove : yX8_remove.cls ≠ "java/lang/invoke/MethodHandle" ∧ yX8_remove.cls ≠ "java/lang/invoke/VarHandle" ∧ (parseMethodDescriptor yX8_remove.desc).map (fun d => d.parameters.length) = some 1 := by decide +kernel
theorem zd_X9_add : yX9_add.cls ≠ "java/lang/invoke/MethodHandle" ∧ yX9_add.cls ≠ "java/lang/invoke/VarHandle" ∧ (parseMethodDescriptor yX9_add.desc).map (fun d => d.parameters.length) = some 4 := by decide +kernel
theorem zd_X9_copyFrom : yX9_copyFrom.cls ≠ "java/lang/invoke/MethodHandle" ∧ yX9_copyFrom.cls ≠ "java/lang/invoke/VarHandle" ∧ (parseMethodDescriptor yX9_copyFrom.desc).map (fun d => d.parameters.length) = some 1 := by decide +kernel
theorem zd_X9_howManyAt : yX9_howManyAt.cls ≠ "java/lang/invoke/MethodHandle" ∧ yX9_howManyAt.cls ≠ "java/lang/invoke/VarHandle" ∧ (parseMethodDescriptor yX9_howManyAt.desc).map (fun d => d.parameters.length) = some 2 := by decide +kernel
theorem zd_X9_init : yX9_init.cls ≠ "java/lang/invoke/MethodHandle" ∧ yX9_init.cls ≠ "java/lang/invoke/VarHandle" ∧ (parseMethodDescriptor yX9_init.desc).map (fun d => d.parameters.length) = some 0 := by decide +kernel
theorem zd_X9_most : yX9_most.cls ≠ "java/lang/invoke/MethodHandle" ∧ yX9_most.cls ≠ "java/lang/invoke/VarHandle" ∧ (parseMethodDescriptor yX9_most.desc).map (fun d => d.parameters.length) = some 1 := by decide +kernel
theorem zd_X9_peakTick : yX9_peakTick.cls ≠ "java/lang/invoke/MethodHandle" ∧ yX9_peakTick.cls ≠ "java/lang/invoke/VarHandle" ∧ (parseMethodDescriptor yX9_peakTick.desc).map (fun d => d.parameters.length) = some 1 := by decide +kernel
