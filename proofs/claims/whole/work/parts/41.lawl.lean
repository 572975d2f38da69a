theorem law_more {i L : Nat} (hi : i ≤ L) (hL : L ≤ 3584) (h : ¬ (Int32.ofNat L - 7 < nI i)) : i + 7 ≤ L := by
  have e : Int32.ofNat L = nI L := rfl
  rw [e] at h
  rcases Nat.lt_or_ge L 7 with z | z
  · exfalso
    apply h
    have hn : nI L - 7 < 0 := by
      rcases (show L = 0 ∨ L = 1 ∨ L = 2 ∨ L = 3 ∨ L = 4 ∨ L = 5 ∨ L = 6 by omega) with r | r | r | r | r | r | r <;> subst r <;> decide
    rw [fa_lt] at hn ⊢
    rw [nI_toInt (n := i) (by omega)]
    have h0 : (0 : Int32).toInt = 0 := rfl
    omega
  · have e2 : nI L - 7 = nI (L - 7) := by
      have : nI L = nI (L - 7) + 7 := by rw [ixj (J := 7) (L - 7) 7 rfl]; congr 1; omega
      rw [this]; exact Int32.add_sub_cancel _ _
    rw [e2] at h
    rcases Nat.lt_or_ge (L - 7) i with y | y
    · exact absurd ((nI_ltI (by omega) (by omega)).mpr y) h
    · omega
section LAWL
variable {p : Program} {l : Launch} {e : Env} {s : State} {m : MethodId} {below : List Frame} {meth : Method} {c : Code} {b L : Nat} {xs : Nat → Int32} {D : va_G} {cI cJ : ClassId} {ad : Nat → Nat}
set_option maxHeartbeats 4000000 in
theorem law_loop (hL : L ≤ 3584) (C0 : lw_At p s m meth c b L xs) (hK : xK D cI cJ s) (hD : zD (fun q : Nat => s.heap.size ≤ q) cI cJ ad) : ∀ (n i : Nat), i ≤ L → L + 1 ≤ i + n → lK p l e s m below meth c b D cI cJ ad i 18 := by
  obtain ⟨hx, hb, hr, hml, hown, hts, hX, hbl, hlocks, hgv⟩ := id C0
  have hbA : ¬ (fun q : Nat => s.heap.size ≤ q) b := Nat.not_le.mpr hbl
  intro n
  induction n with
  | zero => intro i h1 h2; exact absurd h2 (by omega)
  | succ n ih =>
    intro i hi hn u v H locs ls hI hP hS hl
    refine lv_iload_n hx hb dL_law_18 rfl (lv_at hl 3 rfl) ?_
    refine lv_aload_n hx hb dL_law_19 rfl (lv_at hl 0 rfl) ?_
    refine va_slen hx hb hX hbl hbA hS dL_law_20 ?_
    refine lv_bipush (v := (7 : Int32)) hx hb dL_law_21 (by decide) ?_
    refine lv_isub hx hb dL_law_23 ?_
    refine lv_icmp_gt (tgt := 1197) hx hb dL_law_24 (by decide) (fun c1 => ?_) (fun c1 => ?_)
    · refine lv_iconst (v := 1) hx hb dL_law_1197 (by decide) ?_
      refine va_forget (fun q hq => hS.2.2 q hq) ?_
      exact lw_ret hx hb hr hlocks dL_law_1198
    · have h7 : i + 7 ≤ L := law_more hi hL c1
      have kk : lK p l e s m below meth c b D cI cJ ad i 1191 := by
        intro u v H locs ls hI hP hS hl
        refine lv_iinc (v := nI (i + 7)) (lv' := [(3, .int (nI (i + 7))), (0, .ref b), (1, .ref (ad 0)), (2, .ref (ad 64))]) hx hb dL_law_1191 hl (k := 3) rfl (ixj (J := Int32.ofInt 7) i 7 rfl) (by decide) rfl (fun ls hl => ?_)
        refine lv_goto (tgt := 18) hx hb dL_law_1194 (by decide) ?_
        exact ih (i + 7) (by omega) (by omega) u v H locs ls hI hP hS (lv_sub hl [1, 2, 3, 0] rfl)
      refine lv_aload_n hx hb dL_law_27 rfl (lv_at hl 0 rfl) ?_
      refine lv_iload_n hx hb dL_law_28 rfl (lv_at hl 3 rfl) ?_
      refine va_sld hx hb hX hbl hbA hS (vp_in_nI (by omega) (by omega)) dL_law_29 ?_
      refine lv_bipush (v := (63 : Int32)) hx hb dL_law_30 (by decide) ?_
      refine lv_iand hx hb dL_law_32 ?_
      refine lv_topi (fun z ez => ?_)
      by_cases c0 : z = (0 : Int32)
      · refine lv_tableIn (tgt := 188) hx hb dL_law_33 (by rw [c0]; decide) (by rw [c0]; decide) (by rw [c0]; rfl) (by decide) ?_
        exact law_c0 C0 hK hD h7 hL kk u v H locs ls hI hP hS hl
      by_cases c1 : z = (1 : Int32)
      · refine lv_tableIn (tgt := 211) hx hb dL_law_33 (by rw [c1]; decide) (by rw [c1]; decide) (by rw [c1]; rfl) (by decide) ?_
        exact law_c1 C0 hK hD h7 hL kk u v H locs ls hI hP hS hl
      by_cases c2 : z = (2 : Int32)
      · refine lv_tableIn (tgt := 254) hx hb dL_law_33 (by rw [c2]; decide) (by rw [c2]; decide) (by rw [c2]; rfl) (by decide) ?_
        exact law_c2 C0 hK hD h7 hL kk u v H locs ls hI hP hS hl
      by_cases c3 : z = (3 : Int32)
      · refine lv_tableIn (tgt := 287) hx hb dL_law_33 (by rw [c3]; decide) (by rw [c3]; decide) (by rw [c3]; rfl) (by decide) ?_
        exact law_c3 C0 hK hD h7 hL kk u v H locs ls hI hP hS hl
      by_cases c4 : z = (4 : Int32)
      · refine lv_tableIn (tgt := 320) hx hb dL_law_33 (by rw [c4]; decide) (by rw [c4]; decide) (by rw [c4]; rfl) (by decide) ?_
        exact law_c4 C0 hK hD h7 hL kk u v H locs ls hI hP hS hl
      by_cases c5 : z = (5 : Int32)
      · refine lv_tableIn (tgt := 343) hx hb dL_law_33 (by rw [c5]; decide) (by rw [c5]; decide) (by rw [c5]; rfl) (by decide) ?_
        exact law_c5 C0 hK hD h7 hL kk u v H locs ls hI hP hS hl
      by_cases c6 : z = (6 : Int32)
      · refine lv_tableIn (tgt := 376) hx hb dL_law_33 (by rw [c6]; decide) (by rw [c6]; decide) (by rw [c6]; rfl) (by decide) ?_
        exact law_c6 C0 hK hD h7 hL kk u v H locs ls hI hP hS hl
      by_cases c7 : z = (7 : Int32)
      · refine lv_tableIn (tgt := 409) hx hb dL_law_33 (by rw [c7]; decide) (by rw [c7]; decide) (by rw [c7]; rfl) (by decide) ?_
        exact law_c7 C0 hK hD h7 hL kk u v H locs ls hI hP hS hl
      by_cases c8 : z = (8 : Int32)
      · refine lv_tableIn (tgt := 442) hx hb dL_law_33 (by rw [c8]; decide) (by rw [c8]; decide) (by rw [c8]; rfl) (by decide) ?_
        exact law_c8 C0 hK hD h7 hL kk u v H locs ls hI hP hS hl
      by_cases c9 : z = (9 : Int32)
      · refine lv_tableIn (tgt := 485) hx hb dL_law_33 (by rw [c9]; decide) (by rw [c9]; decide) (by rw [c9]; rfl) (by decide) ?_
        exact law_c9 C0 hK hD h7 hL kk u v H locs ls hI hP hS hl
      by_cases c10 : z = (10 : Int32)
      · refine lv_tableIn (tgt := 508) hx hb dL_law_33 (by rw [c10]; decide) (by rw [c10]; decide) (by rw [c10]; rfl) (by decide) ?_
        exact law_c10 C0 hK hD h7 hL kk u v H locs ls hI hP hS hl
      by_cases c11 : z = (11 : Int32)
      · refine lv_tableIn (tgt := 531) hx hb dL_law_33 (by rw [c11]; decide) (by rw [c11]; decide) (by rw [c11]; rfl) (by decide) ?_
        exact law_c11 C0 hK hD h7 hL kk u v H locs ls hI hP hS hl
      by_cases c12 : z = (12 : Int32)
      · refine lv_tableIn (tgt := 554) hx hb dL_law_33 (by rw [c12]; decide) (by rw [c12]; decide) (by rw [c12]; rfl) (by decide) ?_
        exact law_c12 C0 hK hD h7 hL kk u v H locs ls hI hP hS hl
      by_cases c13 : z = (13 : Int32)
      · refine lv_tableIn (tgt := 577) hx hb dL_law_33 (by rw [c13]; decide) (by rw [c13]; decide) (by rw [c13]; rfl) (by decide) ?_
        exact law_c13 C0 hK hD h7 hL kk u v H locs ls hI hP hS hl
      by_cases c14 : z = (14 : Int32)
      · refine lv_tableIn (tgt := 600) hx hb dL_law_33 (by rw [c14]; decide) (by rw [c14]; decide) (by rw [c14]; rfl) (by decide) ?_
        exact law_c14 C0 hK hD h7 hL kk u v H locs ls hI hP hS hl
      by_cases c15 : z = (15 : Int32)
      · refine lv_tableIn (tgt := 623) hx hb dL_law_33 (by rw [c15]; decide) (by rw [c15]; decide) (by rw [c15]; rfl) (by decide) ?_
        exact law_c15 C0 hK hD h7 hL kk u v H locs ls hI hP hS hl
      by_cases c16 : z = (16 : Int32)
      · refine lv_tableIn (tgt := 646) hx hb dL_law_33 (by rw [c16]; decide) (by rw [c16]; decide) (by rw [c16]; rfl) (by decide) ?_
        exact law_c16 C0 hK hD h7 hL kk u v H locs ls hI hP hS hl
      by_cases c17 : z = (17 : Int32)
      · refine lv_tableIn (tgt := 679) hx hb dL_law_33 (by rw [c17]; decide) (by rw [c17]; decide) (by rw [c17]; rfl) (by decide) ?_
        exact law_c17 C0 hK hD h7 hL kk u v H locs ls hI hP hS hl
      by_cases c18 : z = (18 : Int32)
      · refine lv_tableIn (tgt := 712) hx hb dL_law_33 (by rw [c18]; decide) (by rw [c18]; decide) (by rw [c18]; rfl) (by decide) ?_
        exact law_c18 C0 hK hD h7 hL kk u v H locs ls hI hP hS hl
      by_cases c19 : z = (19 : Int32)
      · refine lv_tableIn (tgt := 735) hx hb dL_law_33 (by rw [c19]; decide) (by rw [c19]; decide) (by rw [c19]; rfl) (by decide) ?_
        exact law_c19 C0 hK hD h7 hL kk u v H locs ls hI hP hS hl
      by_cases c20 : z = (20 : Int32)
      · refine lv_tableIn (tgt := 788) hx hb dL_law_33 (by rw [c20]; decide) (by rw [c20]; decide) (by rw [c20]; rfl) (by decide) ?_
        exact law_c20 C0 hK hD h7 hL kk u v H locs ls hI hP hS hl
      by_cases c21 : z = (21 : Int32)
      · refine lv_tableIn (tgt := 821) hx hb dL_law_33 (by rw [c21]; decide) (by rw [c21]; decide) (by rw [c21]; rfl) (by decide) ?_
        exact law_c21 C0 hK hD h7 hL kk u v H locs ls hI hP hS hl
      by_cases c22 : z = (22 : Int32)
      · refine lv_tableIn (tgt := 844) hx hb dL_law_33 (by rw [c22]; decide) (by rw [c22]; decide) (by rw [c22]; rfl) (by decide) ?_
        exact law_c22 C0 hK hD h7 hL kk u v H locs ls hI hP hS hl
      by_cases c23 : z = (23 : Int32)
      · refine lv_tableIn (tgt := 919) hx hb dL_law_33 (by rw [c23]; decide) (by rw [c23]; decide) (by rw [c23]; rfl) (by decide) ?_
        exact law_c23 C0 hK hD h7 hL kk u v H locs ls hI hP hS hl
      by_cases c24 : z = (24 : Int32)
      · refine lv_tableIn (tgt := 952) hx hb dL_law_33 (by rw [c24]; decide) (by rw [c24]; decide) (by rw [c24]; rfl) (by decide) ?_
        exact law_c24 C0 hK hD h7 hL kk u v H locs ls hI hP hS hl
      by_cases c25 : z = (25 : Int32)
      · refine lv_tableIn (tgt := 985) hx hb dL_law_33 (by rw [c25]; decide) (by rw [c25]; decide) (by rw [c25]; rfl) (by decide) ?_
        exact law_c25 C0 hK hD h7 hL kk u v H locs ls hI hP hS hl
      by_cases c26 : z = (26 : Int32)
      · refine lv_tableIn (tgt := 998) hx hb dL_law_33 (by rw [c26]; decide) (by rw [c26]; decide) (by rw [c26]; rfl) (by decide) ?_
        exact law_c26 C0 hK hD h7 hL kk u v H locs ls hI hP hS hl
      by_cases c27 : z = (27 : Int32)
      · refine lv_tableIn (tgt := 1011) hx hb dL_law_33 (by rw [c27]; decide) (by rw [c27]; decide) (by rw [c27]; rfl) (by decide) ?_
        exact law_c27 C0 hK hD h7 hL kk u v H locs ls hI hP hS hl
      by_cases c28 : z = (28 : Int32)
      · refine lv_tableIn (tgt := 1024) hx hb dL_law_33 (by rw [c28]; decide) (by rw [c28]; decide) (by rw [c28]; rfl) (by decide) ?_
        exact law_c28 C0 hK hD h7 hL kk u v H locs ls hI hP hS hl
      by_cases c29 : z = (29 : Int32)
      · refine lv_tableIn (tgt := 1073) hx hb dL_law_33 (by rw [c29]; decide) (by rw [c29]; decide) (by rw [c29]; rfl) (by decide) ?_
        exact law_c29 C0 hK hD h7 hL kk u v H locs ls hI hP hS hl
      by_cases c30 : z = (30 : Int32)
      · refine lv_tableIn (tgt := 1096) hx hb dL_law_33 (by rw [c30]; decide) (by rw [c30]; decide) (by rw [c30]; rfl) (by decide) ?_
        exact law_c30 C0 hK hD h7 hL kk u v H locs ls hI hP hS hl
      by_cases c31 : z = (31 : Int32)
      · refine lv_tableIn (tgt := 1119) hx hb dL_law_33 (by rw [c31]; decide) (by rw [c31]; decide) (by rw [c31]; rfl) (by decide) ?_
        exact law_c31 C0 hK hD h7 hL kk u v H locs ls hI hP hS hl
      by_cases c32 : z = (32 : Int32)
      · refine lv_tableIn (tgt := 1142) hx hb dL_law_33 (by rw [c32]; decide) (by rw [c32]; decide) (by rw [c32]; rfl) (by decide) ?_
        exact law_c32 C0 hK hD h7 hL kk u v H locs ls hI hP hS hl
      by_cases c33 : z = (33 : Int32)
      · refine lv_tableIn (tgt := 1155) hx hb dL_law_33 (by rw [c33]; decide) (by rw [c33]; decide) (by rw [c33]; rfl) (by decide) ?_
        exact law_c33 C0 hK hD h7 hL kk u v H locs ls hI hP hS hl
      by_cases c34 : z = (34 : Int32)
      · refine lv_tableIn (tgt := 1168) hx hb dL_law_33 (by rw [c34]; decide) (by rw [c34]; decide) (by rw [c34]; rfl) (by decide) ?_
        exact law_c34 C0 hK hD h7 hL kk u v H locs ls hI hP hS hl
      refine lv_tableOut (tgt := 1191) hx hb dL_law_33 (tsw34 c0 c1 c2 c3 c4 c5 c6 c7 c8 c9 c10 c11 c12 c13 c14 c15 c16 c17 c18 c19 c20 c21 c22 c23 c24 c25 c26 c27 c28 c29 c30 c31 c32 c33 c34) (by decide) ?_
      exact kk u v H locs ls hI hP hS hl
end LAWL
/-! the start -/
def f30 : Nat → Int32 := upd (fun _ => 0) 7 30
def u00 : tU := va_up (va_up (va_up (fun _ _ => 0) 4 f30) 10 f30) 40 f30
def v00 : tV := fun _ _ => 0
def N00 : tN := va_up (fun _ => 0) 7 30
theorem N00_c {n : Nat} : CR f30 N00 n := fun k _ => by
  unfold f30 N00
  by_cases e : k = 7
  · subst e; rfl
  · simp [upd, va_up, e]; rfl
theorem N00_0 {k : Nat} (h : k ≠ 7) : N00 k = 0 := vn h
theorem N00_ok : okN N00 := by
  refine ⟨fun k => ?_, ⟨by decide, by decide, by decide, by decide, by decide, by decide, by decide, by decide⟩, fun p hp => ?_, fun p hp => ?_, fun p hp => ?_, fun p hp => ?_, fun p hp => ?_, fun p hp => ?_⟩
  · by_cases e : k = 7
    · subst e; decide
    · rw [N00_0 e]; decide
  · exact absurd hp (Nat.not_lt_zero p)
  · exact absurd hp (Nat.not_lt_zero p)
  · exact absurd hp (Nat.not_lt_zero p)
  · exact absurd hp (Nat.not_lt_zero p)
  · exact absurd hp (Nat.not_lt_zero p)
  · exact absurd hp (Nat.not_lt_zero p)
theorem Inv_0 : Inv u00 v00 := by
  refine ⟨N00, 0, fun _ => 0, none, 0, ⟨N00_ok, Nat.zero_le _, fun k hk => absurd hk (Nat.not_lt_zero k), fun N' h => by cases h⟩, ⟨⟨N00_c, fun p hp => ?_, fun p hp => ?_, fun p hp => ?_, fun p hp => ?_, fun p hp => ?_, fun p hp => ?_⟩, rfl, rfl, rfl, Or.inl ⟨rfl, rfl⟩⟩, N00_c, rfl, fun k hk => absurd hk (Nat.not_lt_zero k), rfl, Or.inl ⟨rfl, rfl⟩⟩
  · exact absurd hp (Nat.not_lt_zero p)
  · exact absurd hp (Nat.not_lt_zero p)
  · exact absurd hp (Nat.not_lt_zero p)
  · exact absurd hp (Nat.not_lt_zero p)
  · exact absurd hp (Nat.not_lt_zero p)
  · exact absurd hp (Nat.not_lt_zero p)
theorem va_D_fst {A : Nat → Prop} {ws ws' : va_W} (h : ws'.map Prod.fst = ws.map Prod.fst) (hD : va_D A ws) : va_D A ws' := by
  have key : ∀ (k : Nat) (q : Nat × va_E), ws'[k]? = some q → ∃ q', ws[k]? = some q' ∧ q'.1 = q.1 := by
    intro k q hq
    have h1 : (ws'.map Prod.fst)[k]? = some q.1 := by rw [List.getElem?_map, hq]; rfl
    rw [h, List.getElem?_map] at h1
    cases h2 : ws[k]? with
    | none => rw [h2] at h1; cases h1
    | some q' => rw [h2] at h1; exact ⟨q', rfl, Option.some.inj h1⟩
  refine ⟨fun i j p q hp hq e => ?_, fun k q hq => ?_⟩
  · obtain ⟨p', a1, a2⟩ := key i p hp
    obtain ⟨q', b1, b2⟩ := key j q hq
    exact hD.1 i j p' q' a1 b1 (by rw [a2, b2, e])
  · obtain ⟨q', a1, a2⟩ := key k q hq
    rw [← a2]; exact hD.2 k q' a1
theorem zD_of {A : Nat → Prop} {cI cJ : ClassId} {ad : Nat → Nat} {u : tU} {v : tV} (h : va_D A (wA cI cJ ad u v)) : zD A cI cJ ad := fun u' v' => va_D_fst (ws := wA cI cJ ad u v) rfl h
theorem known_all {A : Array Value} {s : State} (hts : ∀ w ∈ lw_tbl, w.before A s = true) : ∃ D : va_G, ∀ (k : Nat) (q : vw_C), vwCl[k]? = some q → u_Kn s q.1 q.2.1 q.2.2 (D.1 k) (D.2 k) := by
  obtain ⟨c0, i0, h0⟩ := u_known (C := RX0) (T := TX0) (N := 8) (n := 8) hts (fun w h => (gw_wsX00 w h).1) (hts _ q_t40.1)
  obtain ⟨c1, i1, h1⟩ := u_known (C := RX1) (T := TX1) (N := 5) (n := 5) hts (fun w h => (gw_wsX10 w h).1) (hts _ q_t120.1)
  obtain ⟨c2, i2, h2⟩ := u_known (C := RX2) (T := TX2) (N := 1) (n := 1) hts (fun w h => (gw_wsX20 w h).1) (hts _ q_t249.1)
  obtain ⟨c3, i3, h3⟩ := u_known (C := RX3) (T := TX3) (N := 3) (n := 3) hts (fun w h => (gw_wsX30 w h).1) (hts _ q_t98.1)
  obtain ⟨c4, i4, h4⟩ := u_known (C := RX4) (T := TX4) (N := 2) (n := 2) hts (fun w h => (gw_wsX40 w h).1) (hts _ q_t26.1)
  obtain ⟨c5, i5, h5⟩ := u_known (C := RX5) (T := TX5) (N := 3) (n := 3) hts (fun w h => (gw_wsX50 w h).1) (hts _ q_t259.1)
  obtain ⟨c6, i6, h6⟩ := u_known (C := RX6) (T := TX6) (N := 4) (n := 4) hts (fun w h => (gw_wsX60 w h).1) (hts _ q_t46.1)
  obtain ⟨c7, i7, h7⟩ := u_known (C := RX7) (T := TX7) (N := 7) (n := 7) hts (fun w h => (gw_wsX70 w h).1) (hts _ q_t171.1)
  obtain ⟨c8, i8, h8⟩ := u_known (C := RX8) (T := TX8) (N := 4) (n := 4) hts (fun w h => (gw_wsX80 w h).1) (hts _ q_t73.1)
  obtain ⟨c9, i9, h9⟩ := u_known (C := RX9) (T := TX9) (N := 5) (n := 5) hts (fun w h => (gw_wsX90 w h).1) (hts _ q_t148.1)
  obtain ⟨c10, i10, h10⟩ := u_known (C := RX10) (T := TX10) (N := 7) (n := 7) hts (fun w h => (gw_wsX100 w h).1) (hts _ q_t18.1)
  obtain ⟨c11, i11, h11⟩ := u_known (C := RX11) (T := TX11) (N := 10) (n := 10) hts (fun w h => (gw_wsX110 w h).1) (hts _ q_t727.1)
  have key : ∀ k : Nat, ∃ d : ClassId × (Nat → Nat), ∀ q : vw_C, vwCl[k]? = some q → u_Kn s q.1 q.2.1 q.2.2 d.1 d.2 := by
    intro k
    match k with
    | 0 => exact ⟨(c0, i0), fun q hq => by cases hq; exact h0⟩
    | 1 => exact ⟨(c1, i1), fun q hq => by cases hq; exact h1⟩
    | 2 => exact ⟨(c2, i2), fun q hq => by cases hq; exact h2⟩
    | 3 => exact ⟨(c3, i3), fun q hq => by cases hq; exact h3⟩
    | 4 => exact ⟨(c4, i4), fun q hq => by cases hq; exact h4⟩
    | 5 => exact ⟨(c5, i5), fun q hq => by cases hq; exact h5⟩
    | 6 => exact ⟨(c6, i6), fun q hq => by cases hq; exact h6⟩
    | 7 => exact ⟨(c7, i7), fun q hq => by cases hq; exact h7⟩
    | 8 => exact ⟨(c8, i8), fun q hq => by cases hq; exact h8⟩
    | 9 => exact ⟨(c9, i9), fun q hq => by cases hq; exact h9⟩
    | 10 => exact ⟨(c10, i10), fun q hq => by cases hq; exact h10⟩
    | 11 => exact ⟨(c11, i11), fun q hq => by cases hq; exact h11⟩
    | k + 12 => exact ⟨(c0, i0), fun q hq => by simp [vwCl] at hq⟩
  obtain ⟨f, hf⟩ := Classical.axiomOfChoice key
  exact ⟨(fun k => (f k).1, fun k => (f k).2), fun k q hq => hf k q hq⟩
theorem arr_all {A : Array Value} {s : State} (hts : ∀ w ∈ lw_tbl, w.before A s = true) : ∃ cI cJ : ClassId, (ArrOfT s cI .int ∧ va_RA s cI .int) ∧ (ArrOfT s cJ .long ∧ va_RA s cJ .long) := by
  obtain ⟨cA, kA, comp, h1, h2, h3⟩ := Cond.arrayClass_spec (hts _ q_t71.1)
  obtain ⟨cB, kB, comp2, g1, g2, g3⟩ := Cond.arrayClass_spec (hts _ q_t96.1)
  exact ⟨cA, cB, ⟨fun n z => ⟨fun k h => (by cases h), kA, h2, comp, h3⟩, h1⟩, ⟨fun n z => ⟨fun k h => (by cases h), kB, g2, comp2, g3⟩, g1⟩⟩
