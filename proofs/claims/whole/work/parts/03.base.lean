/-! one world for class and reference; own rows over the kit's -/
def nw_is : Cond → Bool
  | .fieldLinkNest .. => true
  | .methodLinkNest .. => true
  | _ => false
def nw_ok (U : State) : Prop := ∀ w ∈ tables_1, nw_is w = true → va_Nw w U
theorem nw_tab {w : Cond} (h : nw_is w = true) : w.onTables = true := by
  cases w <;> first | rfl | (simp [nw_is] at h)
theorem nw_warm {s U : State} (hW : s.WarmedH U.vm) (h : nw_ok s) : nw_ok U := by
  intro w hw hi
  have h1 := h w hw hi
  cases w <;> first | exact va_Nw.warmF hW h1 | exact va_Nw.warmM hW h1 | (simp [nw_is] at hi)
theorem nw_same {u U : State} (e : u.vm = U.vm) (h : nw_ok u) : nw_ok U := fun w hw hi => va_Nw.same (nw_tab hi) e (h w hw hi)
theorem nw_of {A : Array Value} {U : State} (h : ∀ w ∈ tables_1, w.before A U = true) : nw_ok U := fun w hw hi => va_Nw.of (nw_tab hi) (h w hw)
def xK (D : va_G) (cI cJ : ClassId) (U : State) : Prop := va_K D vwCl [(cI, .int), (cJ, .long)] U ∧ nw_ok U
def xPre (D : va_G) (cI cJ : ClassId) (ws : va_W) (U : State) : Prop := va_P D vwCl ws U.heap ∧ xK D cI cJ U
theorem xK.warm {D : va_G} {cI cJ : ClassId} {s U : State} (hW : s.WarmedH U.vm) (h : xK D cI cJ s) : xK D cI cJ U := ⟨va_K.moved hW.alike h.1, nw_warm hW h.2⟩
theorem xPre.blind {D : va_G} {cI cJ : ClassId} {ws : va_W} {av : List Value} : FrameBlind (va_Pc av (xPre D cI cJ ws)) := fun a U g mk q =>
  ⟨q.1, q.2.1, va_K.moved (u := U) (U := U.calling g mk a) (Vm.Alike.refl U.vm) q.2.2.1, nw_same (u := U) (U := U.calling g mk a) rfl q.2.2.2⟩
theorem xPreS {D : va_G} {cI cJ : ClassId} {ws : va_W} {s : State} {H : Heap} {As : List Value} (hK : xK D cI cJ s) (hP : va_P D vwCl ws H) : PreS s H (va_Pc As (xPre D cI cJ ws)) As :=
  ⟨xPre.blind, fun U hU hW => ⟨rfl, by rw [hU]; exact hP, hK.warm hW⟩⟩
theorem xPre0 {s : State} {H : Heap} {As : List Value} : PreS s H (va_Pc As (fun _ => True)) As := ⟨fun _ _ _ _ q => q, fun _ _ _ => ⟨rfl, trivial⟩⟩
theorem xPreV {D : va_G} {cI cJ : ClassId} {ws : va_W} {s : State} {H : Heap} {As : List Value} {b ci : Nat} {q : vw_C} (hK : xK D cI cJ s) (hP : va_P D vwCl ws H) (hc : vwCl[ci]? = some q) (he : ∃ (q0 : Nat) (fs : List Value), ws[q0]? = some (b, .inr (ci, fs))) :
    PreV s H q.1 b (va_Pc (.ref b :: As) (xPre D cI cJ ws)) As :=
  ⟨xPre.blind, by obtain ⟨q0, fs, he⟩ := he; exact va_recv hK.1 hP hc he, fun U hU hW => ⟨rfl, by rw [hU]; exact hP, hK.warm hW⟩⟩
/-! pure words -/
def fuel : Nat := 1200
def gd {α : Type} (i : Int32) (n : Nat) (k : Option α) : Option α := if i < 0 ∨ n ≤ i.toNatClampNeg then none else k
def gb {α : Type} (i : Int32) (k : Option α) : Option α := if i &&& 1 = i then k else none
theorem gd_s {α : Type} {i : Int32} {n : Nat} {k : Option α} {o : α} (h : gd i n k = some o) : vp_in i n ∧ k = some o := by
  unfold gd at h
  split at h
  · cases h
  · exact ⟨by assumption, h⟩
theorem gb_s {α : Type} {i : Int32} {k : Option α} {o : α} (h : gb i k = some o) : narrow .boolean (.int i) = .int i ∧ k = some o := by
  unfold gb at h
  split at h
  · rename_i e
    exact ⟨by show Value.int (i &&& 1) = Value.int i; rw [e], h⟩
  · cases h
theorem vz_t {α : Type} {c : Prop} {d : Decidable c} {X Y : Option α} {o : α} (hc : c) (h : (@ite _ c d X Y) = some o) : X = some o := by rw [if_pos hc] at h; exact h
theorem vz_f {α : Type} {c : Prop} {d : Decidable c} {X Y : Option α} {o : α} (hc : ¬ c) (h : (@ite _ c d X Y) = some o) : Y = some o := by rw [if_neg hc] at h; exact h
theorem vz_b {α β : Type} {x : Option α} {f : α → Option β} {o : β} (h : x.bind f = some o) : ∃ a, x = some a ∧ f a = some o := by
  cases x with
  | none => cases h
  | some a => exact ⟨a, rfl, h⟩
theorem tsw {x : Int32} {k : Int32} (h : ¬ x = k) : ¬ x.toInt = k.toInt := fun e => h (Int32.toInt_inj.mp e)
/-! the world -/
def sU (u : Nat → Nat → Int32) (r c : Nat) (x : Int32) : Nat → Nat → Int32 := va_up u r (upd (u r) c x)
def sV (v : Nat → Nat → Int64) (r c : Nat) (x : Int64) : Nat → Nat → Int64 := va_up v r (vp_updL (v r) c x)
abbrev tU : Type := Nat → Nat → Int32
abbrev tV : Type := Nat → Nat → Int64
def wA (cI cJ : ClassId) (ad : Nat → Nat) (u : Nat → Nat → Int32) (v : Nat → Nat → Int64) : va_W := [
(ad 0, .inr (10, [.ref (ad 1), .ref (ad 2), .ref (ad 31), .ref (ad 60), .ref (ad 62), .int (u 0 0), .int (u 0 1)])),
  (ad 1, .inr (4, [.int (u 0 2), .long (v 0 0)])),
  (ad 2, .inr (0, [.ref (ad 3), .ref (ad 7), .ref (ad 11), .ref (ad 14), .ref (ad 19), .ref (ad 24), .int (u 10 6), .int (u 10 7)])),
  (ad 3, .inr (6, [.int (u 10 0), .ref (ad 4), .ref (ad 5), .ref (ad 6)])),
  (ad 4, .inl (cI, 10, .inl (u 11))),
  (ad 5, .inl (cI, 10, .inl (u 12))),
  (ad 6, .inl (cI, 10, .inl (u 13))),
  (ad 7, .inr (8, [.int (u 10 1), .ref (ad 8), .ref (ad 9), .ref (ad 10)])),
  (ad 8, .inl (cJ, 16, .inr (.inl (v 1)))),
  (ad 9, .inl (cI, 16, .inl (u 14))),
  (ad 10, .inl (cI, 16, .inl (u 15))),
  (ad 11, .inr (3, [.int (u 10 2), .ref (ad 12), .ref (ad 13)])),
  (ad 12, .inl (cI, 8, .inl (u 16))),
  (ad 13, .inl (cI, 8, .inl (u 17))),
  (ad 14, .inr (1, [.int (u 10 3), .ref (ad 15), .ref (ad 16), .ref (ad 17), .ref (ad 18)])),
  (ad 15, .inl (cJ, 40, .inr (.inl (v 2)))),
  (ad 16, .inl (cI, 40, .inl (u 18))),
  (ad 17, .inl (cI, 40, .inl (u 19))),
  (ad 18, .inl (cI, 40, .inl (u 20))),
  (ad 19, .inr (9, [.int (u 10 4), .ref (ad 20), .ref (ad 21), .ref (ad 22), .ref (ad 23)])),
  (ad 20, .inl (cI, 30, .inl (u 21))),
  (ad 21, .inl (cI, 30, .inl (u 22))),
  (ad 22, .inl (cI, 30, .inl (u 23))),
  (ad 23, .inl (cI, 30, .inl (u 24))),
  (ad 24, .inr (7, [.int (u 10 5), .ref (ad 25), .ref (ad 26), .ref (ad 27), .ref (ad 28), .ref (ad 29), .ref (ad 30)])),
  (ad 25, .inl (cI, 10, .inl (u 25))),
  (ad 26, .inl (cI, 10, .inl (u 26))),
  (ad 27, .inl (cI, 10, .inl (u 27))),
  (ad 28, .inl (cI, 10, .inl (u 28))),
  (ad 29, .inl (cI, 10, .inl (u 29))),
  (ad 30, .inl (cI, 10, .inl (u 30))),
  (ad 31, .inr (0, [.ref (ad 32), .ref (ad 36), .ref (ad 40), .ref (ad 43), .ref (ad 48), .ref (ad 53), .int (u 40 6), .int (u 40 7)])),
  (ad 32, .inr (6, [.int (u 40 0), .ref (ad 33), .ref (ad 34), .ref (ad 35)])),
  (ad 33, .inl (cI, 10, .inl (u 41))),
  (ad 34, .inl (cI, 10, .inl (u 42))),
  (ad 35, .inl (cI, 10, .inl (u 43))),
  (ad 36, .inr (8, [.int (u 40 1), .ref (ad 37), .ref (ad 38), .ref (ad 39)])),
  (ad 37, .inl (cJ, 16, .inr (.inl (v 11)))),
  (ad 38, .inl (cI, 16, .inl (u 44))),
  (ad 39, .inl (cI, 16, .inl (u 45))),
  (ad 40, .inr (3, [.int (u 40 2), .ref (ad 41), .ref (ad 42)])),
  (ad 41, .inl (cI, 8, .inl (u 46))),
  (ad 42, .inl (cI, 8, .inl (u 47))),
  (ad 43, .inr (1, [.int (u 40 3), .ref (ad 44), .ref (ad 45), .ref (ad 46), .ref (ad 47)])),
  (ad 44, .inl (cJ, 40, .inr (.inl (v 12)))),
  (ad 45, .inl (cI, 40, .inl (u 48))),
  (ad 46, .inl (cI, 40, .inl (u 49))),
  (ad 47, .inl (cI, 40, .inl (u 50))),
  (ad 48, .inr (9, [.int (u 40 4), .ref (ad 49), .ref (ad 50), .ref (ad 51), .ref (ad 52)])),
  (ad 49, .inl (cI, 30, .inl (u 51))),
  (ad 50, .inl (cI, 30, .inl (u 52))),
  (ad 51, .inl (cI, 30, .inl (u 53))),
  (ad 52, .inl (cI, 30, .inl (u 54))),
  (ad 53, .inr (7, [.int (u 40 5), .ref (ad 54), .ref (ad 55), .ref (ad 56), .ref (ad 57), .ref (ad 58), .ref (ad 59)])),
  (ad 54, .inl (cI, 10, .inl (u 55))),
  (ad 55, .inl (cI, 10, .inl (u 56))),
  (ad 56, .inl (cI, 10, .inl (u 57))),
  (ad 57, .inl (cI, 10, .inl (u 58))),
  (ad 58, .inl (cI, 10, .inl (u 59))),
  (ad 59, .inl (cI, 10, .inl (u 60))),
  (ad 60, .inr (2, [.ref (ad 61)])),
  (ad 61, .inl (cI, 80, .inl (u 1))),
  (ad 62, .inr (5, [.ref (ad 63), .int (u 0 3), .int (u 0 4)])),
  (ad 63, .inl (cI, 10, .inl (u 2))),
  (ad 64, .inr (11, [.int (u 0 5), .ref (ad 65), .ref (ad 66), .int (u 0 6), .ref (ad 67), .int (u 0 7), .ref (ad 68), .ref (ad 69), .int (u 0 8), .int (u 0 9)])),
  (ad 65, .inl (cI, 12, .inl (u 3))),
  (ad 66, .inl (cI, 1114, .inl (u 4))),
  (ad 67, .inl (cI, 1114, .inl (u 5))),
  (ad 68, .inl (cI, 80, .inl (u 6))),
  (ad 69, .inl (cI, 10, .inl (u 7)))]
def zD (A : Nat → Prop) (cI cJ : ClassId) (ad : Nat → Nat) : Prop := ∀ (u : tU) (v : tV), va_D A (wA cI cJ ad u v)
def zI (cI cJ : ClassId) (ad : Nat → Nat) (q n r : Nat) : Prop := ∀ (u : tU) (v : tV), (wA cI cJ ad u v)[q]? = some (ad q, .inl (cI, n, .inl (u r))) ∧ ∀ g, (wA cI cJ ad u v).set q (ad q, .inl (cI, n, .inl g)) = wA cI cJ ad (va_up u r g) v
def zJ (cI cJ : ClassId) (ad : Nat → Nat) (q n r : Nat) : Prop := ∀ (u : tU) (v : tV), (wA cI cJ ad u v)[q]? = some (ad q, .inl (cJ, n, .inr (.inl (v r)))) ∧ ∀ g, (wA cI cJ ad u v).set q (ad q, .inl (cJ, n, .inr (.inl g))) = wA cI cJ ad u (va_up v r g)
def zFi (cI cJ : ClassId) (ad : Nat → Nat) (q ci k r c : Nat) : Prop := ∀ (u : tU) (v : tV), ∃ fs : List Value, (wA cI cJ ad u v)[q]? = some (ad q, .inr (ci, fs)) ∧ fs[k]? = some (.int (u r c)) ∧ k < fs.length ∧ ∀ x, (wA cI cJ ad u v).set q (ad q, .inr (ci, fs.set k (.int x))) = wA cI cJ ad (sU u r c x) v
def zFl (cI cJ : ClassId) (ad : Nat → Nat) (q ci k r c : Nat) : Prop := ∀ (u : tU) (v : tV), ∃ fs : List Value, (wA cI cJ ad u v)[q]? = some (ad q, .inr (ci, fs)) ∧ fs[k]? = some (.long (v r c)) ∧ k < fs.length ∧ ∀ x, (wA cI cJ ad u v).set q (ad q, .inr (ci, fs.set k (.long x))) = wA cI cJ ad u (sV v r c x)
def zFr (cI cJ : ClassId) (ad : Nat → Nat) (q ci k q1 : Nat) : Prop := ∀ (u : tU) (v : tV), ∃ fs : List Value, (wA cI cJ ad u v)[q]? = some (ad q, .inr (ci, fs)) ∧ fs[k]? = some (.ref (ad q1))
theorem zO_0 {cI cJ : ClassId} {ad : Nat → Nat} {u : tU} {v : tV} : ∃ (q0 : Nat) (fs : List Value), (wA cI cJ ad u v)[q0]? = some (ad 0, .inr (10, fs)) := ⟨0, _, rfl⟩
theorem zF_0_0 {cI cJ : ClassId} {ad : Nat → Nat} : zFr cI cJ ad 0 10 0 1 := fun _ _ => ⟨_, rfl, rfl⟩
theorem zF_0_1 {cI cJ : ClassId} {ad : Nat → Nat} : zFr cI cJ ad 0 10 1 2 := fun _ _ => ⟨_, rfl, rfl⟩
theorem zF_0_2 {cI cJ : ClassId} {ad : Nat → Nat} : zFr cI cJ ad 0 10 2 31 := fun _ _ => ⟨_, rfl, rfl⟩
theorem zF_0_3 {cI cJ : ClassId} {ad : Nat → Nat} : zFr cI cJ ad 0 10 3 60 := fun _ _ => ⟨_, rfl, rfl⟩
theorem zF_0_4 {cI cJ : ClassId} {ad : Nat → Nat} : zFr cI cJ ad 0 10 4 62 := fun _ _ => ⟨_, rfl, rfl⟩
theorem zF_0_5 {cI cJ : ClassId} {ad : Nat → Nat} : zFi cI cJ ad 0 10 5 0 0 := fun _ _ => ⟨_, rfl, rfl, Nat.le_of_ble_eq_true rfl, fun _ => rfl⟩
theorem zF_0_6 {cI cJ : ClassId} {ad : Nat → Nat} : zFi cI cJ ad 0 10 6 0 1 := fun _ _ => ⟨_, rfl, rfl, Nat.le_of_ble_eq_true rfl, fun _ => rfl⟩
theorem zO_1 {cI cJ : ClassId} {ad : Nat → Nat} {u : tU} {v : tV} : ∃ (q0 : Nat) (fs : List Value), (wA cI cJ ad u v)[q0]? = some (ad 1, .inr (4, fs)) := ⟨1, _, rfl⟩
theorem zF_1_0 {cI cJ : ClassId} {ad : Nat → Nat} : zFi cI cJ ad 1 4 0 0 2 := fun _ _ => ⟨_, rfl, rfl, Nat.le_of_ble_eq_true rfl, fun _ => rfl⟩
theorem zF_1_1 {cI cJ : ClassId} {ad : Nat → Nat} : zFl cI cJ ad 1 4 1 0 0 := fun _ _ => ⟨_, rfl, rfl, Nat.le_of_ble_eq_true rfl, fun _ => rfl⟩
theorem zO_2 {cI cJ : ClassId} {ad : Nat → Nat} {u : tU} {v : tV} : ∃ (q0 : Nat) (fs : List Value), (wA cI cJ ad u v)[q0]? = some (ad 2, .inr (0, fs)) := ⟨2, _, rfl⟩
theorem zF_2_0 {cI cJ : ClassId} {ad : Nat → Nat} : zFr cI cJ ad 2 0 0 3 := fun _ _ => ⟨_, rfl, rfl⟩
theorem zF_2_1 {cI cJ : ClassId} {ad : Nat → Nat} : zFr cI cJ ad 2 0 1 7 := fun _ _ => ⟨_, rfl, rfl⟩
theorem zF_2_2 {cI cJ : ClassId} {ad : Nat → Nat} : zFr cI cJ ad 2 0 2 11 := fun _ _ => ⟨_, rfl, rfl⟩
theorem zF_2_3 {cI cJ : ClassId} {ad : Nat → Nat} : zFr cI cJ ad 2 0 3 14 := fun _ _ => ⟨_, rfl, rfl⟩
theorem zF_2_4 {cI cJ : ClassId} {ad : Nat → Nat} : zFr cI cJ ad 2 0 4 19 := fun _ _ => ⟨_, rfl, rfl⟩
theorem zF_2_5 {cI cJ : ClassId} {ad : Nat → Nat} : zFr cI cJ ad 2 0 5 24 := fun _ _ => ⟨_, rfl, rfl⟩
theorem zF_2_6 {cI cJ : ClassId} {ad : Nat → Nat} : zFi cI cJ ad 2 0 6 10 6 := fun _ _ => ⟨_, rfl, rfl, Nat.le_of_ble_eq_true rfl, fun _ => rfl⟩
theorem zF_2_7 {cI cJ : ClassId} {ad : Nat → Nat} : zFi cI cJ ad 2 0 7 10 7 := fun _ _ => ⟨_, rfl, rfl, Nat.le_of_ble_eq_true rfl, fun _ => rfl⟩
theorem zO_3 {cI cJ : ClassId} {ad : Nat → Nat} {u : tU} {v : tV} : ∃ (q0 : Nat) (fs : List Value), (wA cI cJ ad u v)[q0]? = some (ad 3, .inr (6, fs)) := ⟨3, _, rfl⟩
theorem zF_3_0 {cI cJ : ClassId} {ad : Nat → Nat} : zFi cI cJ ad 3 6 0 10 0 := fun _ _ => ⟨_, rfl, rfl, Nat.le_of_ble_eq_true rfl, fun _ => rfl⟩
theorem zF_3_1 {cI cJ : ClassId} {ad : Nat → Nat} : zFr cI cJ ad 3 6 1 4 := fun _ _ => ⟨_, rfl, rfl⟩
theorem zF_3_2 {cI cJ : ClassId} {ad : Nat → Nat} : zFr cI cJ ad 3 6 2 5 := fun _ _ => ⟨_, rfl, rfl⟩
theorem zF_3_3 {cI cJ : ClassId} {ad : Nat → Nat} : zFr cI cJ ad 3 6 3 6 := fun _ _ => ⟨_, rfl, rfl⟩
theorem zI_4 {cI cJ : ClassId} {ad : Nat → Nat} : zI cI cJ ad 4 10 11 := fun _ _ => ⟨rfl, fun _ => rfl⟩
theorem zI_5 {cI cJ : ClassId} {ad : Nat → Nat} : zI cI cJ ad 5 10 12 := fun _ _ => ⟨rfl, fun _ => rfl⟩
theorem zI_6 {cI cJ : ClassId} {ad : Nat → Nat} : zI cI cJ ad 6 10 13 := fun _ _ => ⟨rfl, fun _ => rfl⟩
theorem zO_7 {cI cJ : ClassId} {ad : Nat → Nat} {u : tU} {v : tV} : ∃ (q0 : Nat) (fs : List Value), (wA cI cJ ad u v)[q0]? = some (ad 7, .inr (8, fs)) := ⟨7, _, rfl⟩
theorem zF_7_0 {cI cJ : ClassId} {ad : Nat → Nat} : zFi cI cJ ad 7 8 0 10 1 := fun _ _ => ⟨_, rfl, rfl, Nat.le_of_ble_eq_true rfl, fun _ => rfl⟩
theorem zF_7_1 {cI cJ : ClassId} {ad : Nat → Nat} : zFr cI cJ ad 7 8 1 8 := fun _ _ => ⟨_, rfl, rfl⟩
theorem zF_7_2 {cI cJ : ClassId} {ad : Nat → Nat} : zFr cI cJ ad 7 8 2 9 := fun _ _ => ⟨_, rfl, rfl⟩
theorem zF_7_3 {cI cJ : ClassId} {ad : Nat → Nat} : zFr cI cJ ad 7 8 3 10 := fun _ _ => ⟨_, rfl, rfl⟩
theorem zJ_8 {cI cJ : ClassId} {ad : Nat → Nat} : zJ cI cJ ad 8 16 1 := fun _ _ => ⟨rfl, fun _ => rfl⟩
theorem zI_9 {cI cJ : ClassId} {ad : Nat → Nat} : zI cI cJ ad 9 16 14 := fun _ _ => ⟨rfl, fun _ => rfl⟩
theorem zI_10 {cI cJ : ClassId} {ad : Nat → Nat} : zI cI cJ ad 10 16 15 := fun _ _ => ⟨rfl, fun _ => rfl⟩
theorem zO_11 {cI cJ : ClassId} {ad : Nat → Nat} {u : tU} {v : tV} : ∃ (q0 : Nat) (fs : List Value), (wA cI cJ ad u v)[q0]? = some (ad 11, .inr (3, fs)) := ⟨11, _, rfl⟩
theorem zF_11_0 {cI cJ : ClassId} {ad : Nat → Nat} : zFi cI cJ ad 11 3 0 10 2 := fun _ _ => ⟨_, rfl, rfl, Nat.le_of_ble_eq_true rfl, fun _ => rfl⟩
theorem zF_11_1 {cI cJ : ClassId} {ad : Nat → Nat} : zFr cI cJ ad 11 3 1 12 := fun _ _ => ⟨_, rfl, rfl⟩
theorem zF_11_2 {cI cJ : ClassId} {ad : Nat → Nat} : zFr cI cJ ad 11 3 2 13 := fun _ _ => ⟨_, rfl, rfl⟩
theorem zI_12 {cI cJ : ClassId} {ad : Nat → Nat} : zI cI cJ ad 12 8 16 := fun _ _ => ⟨rfl, fun _ => rfl⟩
theorem zI_13 {cI cJ : ClassId} {ad : Nat → Nat} : zI cI cJ ad 13 8 17 := fun _ _ => ⟨rfl, fun _ => rfl⟩
theorem zO_14 {cI cJ : ClassId} {ad : Nat → Nat} {u : tU} {v : tV} : ∃ (q0 : Nat) (fs : List Value), (wA cI cJ ad u v)[q0]? = some (ad 14, .inr (1, fs)) := ⟨14, _, rfl⟩
theorem zF_14_0 {cI cJ : ClassId} {ad : Nat → Nat} : zFi cI cJ ad 14 1 0 10 3 := fun _ _ => ⟨_, rfl, rfl, Nat.le_of_ble_eq_true rfl, fun _ => rfl⟩
theorem zF_14_1 {cI cJ : ClassId} {ad : Nat → Nat} : zFr cI cJ ad 14 1 1 15 := fun _ _ => ⟨_, rfl, rfl⟩
theorem zF_14_2 {cI cJ : ClassId} {ad : Nat → Nat} : zFr cI cJ ad 14 1 2 16 := fun _ _ => ⟨_, rfl, rfl⟩
theorem zF_14_3 {cI cJ : ClassId} {ad : Nat → Nat} : zFr cI cJ ad 14 1 3 17 := fun _ _ => ⟨_, rfl, rfl⟩
theorem zF_14_4 {cI cJ : ClassId} {ad : Nat → Nat} : zFr cI cJ ad 14 1 4 18 := fun _ _ => ⟨_, rfl, rfl⟩
theorem zJ_15 {cI cJ : ClassId} {ad : Nat → Nat} : zJ cI cJ ad 15 40 2 := fun _ _ => ⟨rfl, fun _ => rfl⟩
theorem zI_16 {cI cJ : ClassId} {ad : Nat → Nat} : zI cI cJ ad 16 40 18 := fun _ _ => ⟨rfl, fun _ => rfl⟩
theorem zI_17 {cI cJ : ClassId} {ad : Nat → Nat} : zI cI cJ ad 17 40 19 := fun _ _ => ⟨rfl, fun _ => rfl⟩
theorem zI_18 {cI cJ : ClassId} {ad : Nat → Nat} : zI cI cJ ad 18 40 20 := fun _ _ => ⟨rfl, fun _ => rfl⟩
theorem zO_19 {cI cJ : ClassId} {ad : Nat → Nat} {u : tU} {v : tV} : ∃ (q0 : Nat) (fs : List Value), (wA cI cJ ad u v)[q0]? = some (ad 19, .inr (9, fs)) := ⟨19, _, rfl⟩
theorem zF_19_0 {cI cJ : ClassId} {ad : Nat → Nat} : zFi cI cJ ad 19 9 0 10 4 := fun _ _ => ⟨_, rfl, rfl, Nat.le_of_ble_eq_true rfl, fun _ => rfl⟩
theorem zF_19_1 {cI cJ : ClassId} {ad : Nat → Nat} : zFr cI cJ ad 19 9 1 20 := fun _ _ => ⟨_, rfl, rfl⟩
theorem zF_19_2 {cI cJ : ClassId} {ad : Nat → Nat} : zFr cI cJ ad 19 9 2 21 := fun _ _ => ⟨_, rfl, rfl⟩
theorem zF_19_3 {cI cJ : ClassId} {ad : Nat → Nat} : zFr cI cJ ad 19 9 3 22 := fun _ _ => ⟨_, rfl, rfl⟩
theorem zF_19_4 {cI cJ : ClassId} {ad : Nat → Nat} : zFr cI cJ ad 19 9 4 23 := fun _ _ => ⟨_, rfl, rfl⟩
theorem zI_20 {cI cJ : ClassId} {ad : Nat → Nat} : zI cI cJ ad 20 30 21 := fun _ _ => ⟨rfl, fun _ => rfl⟩
theorem zI_21 {cI cJ : ClassId} {ad : Nat → Nat} : zI cI cJ ad 21 30 22 := fun _ _ => ⟨rfl, fun _ => rfl⟩
theorem zI_22 {cI cJ : ClassId} {ad : Nat → Nat} : zI cI cJ ad 22 30 23 := fun _ _ => ⟨rfl, fun _ => rfl⟩
theorem zI_23 {cI cJ : ClassId} {ad : Nat → Nat} : zI cI cJ ad 23 30 24 := fun _ _ => ⟨rfl, fun _ => rfl⟩
theorem zO_24 {cI cJ : ClassId} {ad : Nat → Nat} {u : tU} {v : tV} : ∃ (q0 : Nat) (fs : List Value), (wA cI cJ ad u v)[q0]? = some (ad 24, .inr (7, fs)) := ⟨24, _, rfl⟩
theorem zF_24_0 {cI cJ : ClassId} {ad : Nat → Nat} : zFi cI cJ ad 24 7 0 10 5 := fun _ _ => ⟨_, rfl, rfl, Nat.le_of_ble_eq_true rfl, fun _ => rfl⟩
theorem zF_24_1 {cI cJ : ClassId} {ad : Nat → Nat} : zFr cI cJ ad 24 7 1 25 := fun _ _ => ⟨_, rfl, rfl⟩
theorem zF_24_2 {cI cJ : ClassId} {ad : Nat → Nat} : zFr cI cJ ad 24 7 2 26 := fun _ _ => ⟨_, rfl, rfl⟩
theorem zF_24_3 {cI cJ : ClassId} {ad : Nat → Nat} : zFr cI cJ ad 24 7 3 27 := fun _ _ => ⟨_, rfl, rfl⟩
theorem zF_24_4 {cI cJ : ClassId} {ad : Nat → Nat} : zFr cI cJ ad 24 7 4 28 := fun _ _ => ⟨_, rfl, rfl⟩
theorem zF_24_5 {cI cJ : ClassId} {ad : Nat → Nat} : zFr cI cJ ad 24 7 5 29 := fun _ _ => ⟨_, rfl, rfl⟩
theorem zF_24_6 {cI cJ : ClassId} {ad : Nat → Nat} : zFr cI cJ ad 24 7 6 30 := fun _ _ => ⟨_, rfl, rfl⟩
theorem zI_25 {cI cJ : ClassId} {ad : Nat → Nat} : zI cI cJ ad 25 10 25 := fun _ _ => ⟨rfl, fun _ => rfl⟩
theorem zI_26 {cI cJ : ClassId} {ad : Nat → Nat} : zI cI cJ ad 26 10 26 := fun _ _ => ⟨rfl, fun _ => rfl⟩
theorem zI_27 {cI cJ : ClassId} {ad : Nat → Nat} : zI cI cJ ad 27 10 27 := fun _ _ => ⟨rfl, fun _ => rfl⟩
theorem zI_28 {cI cJ : ClassId} {ad : Nat → Nat} : zI cI cJ ad 28 10 28 := fun _ _ => ⟨rfl, fun _ => rfl⟩
theorem zI_29 {cI cJ : ClassId} {ad : Nat → Nat} : zI cI cJ ad 29 10 29 := fun _ _ => ⟨rfl, fun _ => rfl⟩
theorem zI_30 {cI cJ : ClassId} {ad : Nat → Nat} : zI cI cJ ad 30 10 30 := fun _ _ => ⟨rfl, fun _ => rfl⟩
theorem zO_31 {cI cJ : ClassId} {ad : Nat → Nat} {u : tU} {v : tV} : ∃ (q0 : Nat) (fs : List Value), (wA cI cJ ad u v)[q0]? = some (ad 31, .inr (0, fs)) := ⟨31, _, rfl⟩
theorem zF_31_0 {cI cJ : ClassId} {ad : Nat → Nat} : zFr cI cJ ad 31 0 0 32 := fun _ _ => ⟨_, rfl, rfl⟩
theorem zF_31_1 {cI cJ : ClassId} {ad : Nat → Nat} : zFr cI cJ ad 31 0 1 36 := fun _ _ => ⟨_, rfl, rfl⟩
theorem zF_31_2 {cI cJ : ClassId} {ad : Nat → Nat} : zFr cI cJ ad 31 0 2 40 := fun _ _ => ⟨_, rfl, rfl⟩
theorem zF_31_3 {cI cJ : ClassId} {ad : Nat → Nat} : zFr cI cJ ad 31 0 3 43 := fun _ _ => ⟨_, rfl, rfl⟩
theorem zF_31_4 {cI cJ : ClassId} {ad : Nat → Nat} : zFr cI cJ ad 31 0 4 48 := fun _ _ => ⟨_, rfl, rfl⟩
theorem zF_31_5 {cI cJ : ClassId} {ad : Nat → Nat} : zFr cI cJ ad 31 0 5 53 := fun _ _ => ⟨_, rfl, rfl⟩
theorem zF_31_6 {cI cJ : ClassId} {ad : Nat → Nat} : zFi cI cJ ad 31 0 6 40 6 := fun _ _ => ⟨_, rfl, rfl, Nat.le_of_ble_eq_true rfl, fun _ => rfl⟩
theorem zF_31_7 {cI cJ : ClassId} {ad : Nat → Nat} : zFi cI cJ ad 31 0 7 40 7 := fun _ _ => ⟨_, rfl, rfl, Nat.le_of_ble_eq_true rfl, fun _ => rfl⟩
theorem zO_32 {cI cJ : ClassId} {ad : Nat → Nat} {u : tU} {v : tV} : ∃ (q0 : Nat) (fs : List Value), (wA cI cJ ad u v)[q0]? = some (ad 32, .inr (6, fs)) := ⟨32, _, rfl⟩
theorem zF_32_0 {cI cJ : ClassId} {ad : Nat → Nat} : zFi cI cJ ad 32 6 0 40 0 := fun _ _ => ⟨_, rfl, rfl, Nat.le_of_ble_eq_true rfl, fun _ => rfl⟩
theorem zF_32_1 {cI cJ : ClassId} {ad : Nat → Nat} : zFr cI cJ ad 32 6 1 33 := fun _ _ => ⟨_, rfl, rfl⟩
theorem zF_32_2 {cI cJ : ClassId} {ad : Nat → Nat} : zFr cI cJ ad 32 6 2 34 := fun _ _ => ⟨_, rfl, rfl⟩
theorem zF_32_3 {cI cJ : ClassId} {ad : Nat → Nat} : zFr cI cJ ad 32 6 3 35 := fun _ _ => ⟨_, rfl, rfl⟩
theorem zI_33 {cI cJ : ClassId} {ad : Nat → Nat} : zI cI cJ ad 33 10 41 := fun _ _ => ⟨rfl, fun _ => rfl⟩
theorem zI_34 {cI cJ : ClassId} {ad : Nat → Nat} : zI cI cJ ad 34 10 42 := fun _ _ => ⟨rfl, fun _ => rfl⟩
theorem zI_35 {cI cJ : ClassId} {ad : Nat → Nat} : zI cI cJ ad 35 10 43 := fun _ _ => ⟨rfl, fun _ => rfl⟩
theorem zO_36 {cI cJ : ClassId} {ad : Nat → Nat} {u : tU} {v : tV} : ∃ (q0 : Nat) (fs : List Value), (wA cI cJ ad u v)[q0]? = some (ad 36, .inr (8, fs)) := ⟨36, _, rfl⟩
theorem zF_36_0 {cI cJ : ClassId} {ad : Nat → Nat} : zFi cI cJ ad 36 8 0 40 1 := fun _ _ => ⟨_, rfl, rfl, Nat.le_of_ble_eq_true rfl, fun _ => rfl⟩
theorem zF_36_1 {cI cJ : ClassId} {ad : Nat → Nat} : zFr cI cJ ad 36 8 1 37 := fun _ _ => ⟨_, rfl, rfl⟩
theorem zF_36_2 {cI cJ : ClassId} {ad : Nat → Nat} : zFr cI cJ ad 36 8 2 38 := fun _ _ => ⟨_, rfl, rfl⟩
theorem zF_36_3 {cI cJ : ClassId} {ad : Nat → Nat} : zFr cI cJ ad 36 8 3 39 := fun _ _ => ⟨_, rfl, rfl⟩
theorem zJ_37 {cI cJ : ClassId} {ad : Nat → Nat} : zJ cI cJ ad 37 16 11 := fun _ _ => ⟨rfl, fun _ => rfl⟩
theorem zI_38 {cI cJ : ClassId} {ad : Nat → Nat} : zI cI cJ ad 38 16 44 := fun _ _ => ⟨rfl, fun _ => rfl⟩
theorem zI_39 {cI cJ : ClassId} {ad : Nat → Nat} : zI cI cJ ad 39 16 45 := fun _ _ => ⟨rfl, fun _ => rfl⟩
theorem zO_40 {cI cJ : ClassId} {ad : Nat → Nat} {u : tU} {v : tV} : ∃ (q0 : Nat) (fs : List Value), (wA cI cJ ad u v)[q0]? = some (ad 40, .inr (3, fs)) := ⟨40, _, rfl⟩
theorem zF_40_0 {cI cJ : ClassId} {ad : Nat → Nat} : zFi cI cJ ad 40 3 0 40 2 := fun _ _ => ⟨_, rfl, rfl, Nat.le_of_ble_eq_true rfl, fun _ => rfl⟩
theorem zF_40_1 {cI cJ : ClassId} {ad : Nat → Nat} : zFr cI cJ ad 40 3 1 41 := fun _ _ => ⟨_, rfl, rfl⟩
theorem zF_40_2 {cI cJ : ClassId} {ad : Nat → Nat} : zFr cI cJ ad 40 3 2 42 := fun _ _ => ⟨_, rfl, rfl⟩
theorem zI_41 {cI cJ : ClassId} {ad : Nat → Nat} : zI cI cJ ad 41 8 46 := fun _ _ => ⟨rfl, fun _ => rfl⟩
theorem zI_42 {cI cJ : ClassId} {ad : Nat → Nat} : zI cI cJ ad 42 8 47 := fun _ _ => ⟨rfl, fun _ => rfl⟩
theorem zO_43 {cI cJ : ClassId} {ad : Nat → Nat} {u : tU} {v : tV} : ∃ (q0 : Nat) (fs : List Value), (wA cI cJ ad u v)[q0]? = some (ad 43, .inr (1, fs)) := ⟨43, _, rfl⟩
theorem zF_43_0 {cI cJ : ClassId} {ad : Nat → Nat} : zFi cI cJ ad 43 1 0 40 3 := fun _ _ => ⟨_, rfl, rfl, Nat.le_of_ble_eq_true rfl, fun _ => rfl⟩
theorem zF_43_1 {cI cJ : ClassId} {ad : Nat → Nat} : zFr cI cJ ad 43 1 1 44 := fun _ _ => ⟨_, rfl, rfl⟩
theorem zF_43_2 {cI cJ : ClassId} {ad : Nat → Nat} : zFr cI cJ ad 43 1 2 45 := fun _ _ => ⟨_, rfl, rfl⟩
theorem zF_43_3 {cI cJ : ClassId} {ad : Nat → Nat} : zFr cI cJ ad 43 1 3 46 := fun _ _ => ⟨_, rfl, rfl⟩
theorem zF_43_4 {cI cJ : ClassId} {ad : Nat → Nat} : zFr cI cJ ad 43 1 4 47 := fun _ _ => ⟨_, rfl, rfl⟩
theorem zJ_44 {cI cJ : ClassId} {ad : Nat → Nat} : zJ cI cJ ad 44 40 12 := fun _ _ => ⟨rfl, fun _ => rfl⟩
theorem zI_45 {cI cJ : ClassId} {ad : Nat → Nat} : zI cI cJ ad 45 40 48 := fun _ _ => ⟨rfl, fun _ => rfl⟩
theorem zI_46 {cI cJ : ClassId} {ad : Nat → Nat} : zI cI cJ ad 46 40 49 := fun _ _ => ⟨rfl, fun _ => rfl⟩
theorem zI_47 {cI cJ : ClassId} {ad : Nat → Nat} : zI cI cJ ad 47 40 50 := fun _ _ => ⟨rfl, fun _ => rfl⟩
theorem zO_48 {cI cJ : ClassId} {ad : Nat → Nat} {u : tU} {v : tV} : ∃ (q0 : Nat) (fs : List Value), (wA cI cJ ad u v)[q0]? = some (ad 48, .inr (9, fs)) := ⟨48, _, rfl⟩
theorem zF_48_0 {cI cJ : ClassId} {ad : Nat → Nat} : zFi cI cJ ad 48 9 0 40 4 := fun _ _ => ⟨_, rfl, rfl, Nat.le_of_ble_eq_true rfl, fun _ => rfl⟩
theorem zF_48_1 {cI cJ : ClassId} {ad : Nat → Nat} : zFr cI cJ ad 48 9 1 49 := fun _ _ => ⟨_, rfl, rfl⟩
theorem zF_48_2 {cI cJ : ClassId} {ad : Nat → Nat} : zFr cI cJ ad 48 9 2 50 := fun _ _ => ⟨_, rfl, rfl⟩
theorem zF_48_3 {cI cJ : ClassId} {ad : Nat → Nat} : zFr cI cJ ad 48 9 3 51 := fun _ _ => ⟨_, rfl, rfl⟩
theorem zF_48_4 {cI cJ : ClassId} {ad : Nat → Nat} : zFr cI cJ ad 48 9 4 52 := fun _ _ => ⟨_, rfl, rfl⟩
theorem zI_49 {cI cJ : ClassId} {ad : Nat → Nat} : zI cI cJ ad 49 30 51 := fun _ _ => ⟨rfl, fun _ => rfl⟩
theorem zI_50 {cI cJ : ClassId} {ad : Nat → Nat} : zI cI cJ ad 50 30 52 := fun _ _ => ⟨rfl, fun _ => rfl⟩
theorem zI_51 {cI cJ : ClassId} {ad : Nat → Nat} : zI cI cJ ad 51 30 53 := fun _ _ => ⟨rfl, fun _ => rfl⟩
theorem zI_52 {cI cJ : ClassId} {ad : Nat → Nat} : zI cI cJ ad 52 30 54 := fun _ _ => ⟨rfl, fun _ => rfl⟩
theorem zO_53 {cI cJ : ClassId} {ad : Nat → Nat} {u : tU} {v : tV} : ∃ (q0 : Nat) (fs : List Value), (wA cI cJ ad u v)[q0]? = some (ad 53, .inr (7, fs)) := ⟨53, _, rfl⟩
theorem zF_53_0 {cI cJ : ClassId} {ad : Nat → Nat} : zFi cI cJ ad 53 7 0 40 5 := fun _ _ => ⟨_, rfl, rfl, Nat.le_of_ble_eq_true rfl, fun _ => rfl⟩
theorem zF_53_1 {cI cJ : ClassId} {ad : Nat → Nat} : zFr cI cJ ad 53 7 1 54 := fun _ _ => ⟨_, rfl, rfl⟩
theorem zF_53_2 {cI cJ : ClassId} {ad : Nat → Nat} : zFr cI cJ ad 53 7 2 55 := fun _ _ => ⟨_, rfl, rfl⟩
theorem zF_53_3 {cI cJ : ClassId} {ad : Nat → Nat} : zFr cI cJ ad 53 7 3 56 := fun _ _ => ⟨_, rfl, rfl⟩
theorem zF_53_4 {cI cJ : ClassId} {ad : Nat → Nat} : zFr cI cJ ad 53 7 4 57 := fun _ _ => ⟨_, rfl, rfl⟩
theorem zF_53_5 {cI cJ : ClassId} {ad : Nat → Nat} : zFr cI cJ ad 53 7 5 58 := fun _ _ => ⟨_, rfl, rfl⟩
theorem zF_53_6 {cI cJ : ClassId} {ad : Nat → Nat} : zFr cI cJ ad 53 7 6 59 := fun _ _ => ⟨_, rfl, rfl⟩
theorem zI_54 {cI cJ : ClassId} {ad : Nat → Nat} : zI cI cJ ad 54 10 55 := fun _ _ => ⟨rfl, fun _ => rfl⟩
theorem zI_55 {cI cJ : ClassId} {ad : Nat → Nat} : zI cI cJ ad 55 10 56 := fun _ _ => ⟨rfl, fun _ => rfl⟩
theorem zI_56 {cI cJ : ClassId} {ad : Nat → Nat} : zI cI cJ ad 56 10 57 := fun _ _ => ⟨rfl, fun _ => rfl⟩
theorem zI_57 {cI cJ : ClassId} {ad : Nat → Nat} : zI cI cJ ad 57 10 58 := fun _ _ => ⟨rfl, fun _ => rfl⟩
theorem zI_58 {cI cJ : ClassId} {ad : Nat → Nat} : zI cI cJ ad 58 10 59 := fun _ _ => ⟨rfl, fun _ => rfl⟩
theorem zI_59 {cI cJ : ClassId} {ad : Nat → Nat} : zI cI cJ ad 59 10 60 := fun _ _ => ⟨rfl, fun _ => rfl⟩
theorem zO_60 {cI cJ : ClassId} {ad : Nat → Nat} {u : tU} {v : tV} : ∃ (q0 : Nat) (fs : List Value), (wA cI cJ ad u v)[q0]? = some (ad 60, .inr (2, fs)) := ⟨60, _, rfl⟩
theorem zF_60_0 {cI cJ : ClassId} {ad : Nat → Nat} : zFr cI cJ ad 60 2 0 61 := fun _ _ => ⟨_, rfl, rfl⟩
theorem zI_61 {cI cJ : ClassId} {ad : Nat → Nat} : zI cI cJ ad 61 80 1 := fun _ _ => ⟨rfl, fun _ => rfl⟩
theorem zO_62 {cI cJ : ClassId} {ad : Nat → Nat} {u : tU} {v : tV} : ∃ (q0 : Nat) (fs : List Value), (wA cI cJ ad u v)[q0]? = some (ad 62, .inr (5, fs)) := ⟨62, _, rfl⟩
theorem zF_62_0 {cI cJ : ClassId} {ad : Nat → Nat} : zFr cI cJ ad 62 5 0 63 := fun _ _ => ⟨_, rfl, rfl⟩
theorem zF_62_1 {cI cJ : ClassId} {ad : Nat → Nat} : zFi cI cJ ad 62 5 1 0 3 := fun _ _ => ⟨_, rfl, rfl, Nat.le_of_ble_eq_true rfl, fun _ => rfl⟩
theorem zF_62_2 {cI cJ : ClassId} {ad : Nat → Nat} : zFi cI cJ ad 62 5 2 0 4 := fun _ _ => ⟨_, rfl, rfl, Nat.le_of_ble_eq_true rfl, fun _ => rfl⟩
theorem zI_63 {cI cJ : ClassId} {ad : Nat → Nat} : zI cI cJ ad 63 10 2 := fun _ _ => ⟨rfl, fun _ => rfl⟩
theorem zO_64 {cI cJ : ClassId} {ad : Nat → Nat} {u : tU} {v : tV} : ∃ (q0 : Nat) (fs : List Value), (wA cI cJ ad u v)[q0]? = some (ad 64, .inr (11, fs)) := ⟨64, _, rfl⟩
theorem zF_64_0 {cI cJ : ClassId} {ad : Nat → Nat} : zFi cI cJ ad 64 11 0 0 5 := fun _ _ => ⟨_, rfl, rfl, Nat.le_of_ble_eq_true rfl, fun _ => rfl⟩
theorem zF_64_1 {cI cJ : ClassId} {ad : Nat → Nat} : zFr cI cJ ad 64 11 1 65 := fun _ _ => ⟨_, rfl, rfl⟩
theorem zF_64_2 {cI cJ : ClassId} {ad : Nat → Nat} : zFr cI cJ ad 64 11 2 66 := fun _ _ => ⟨_, rfl, rfl⟩
theorem zF_64_3 {cI cJ : ClassId} {ad : Nat → Nat} : zFi cI cJ ad 64 11 3 0 6 := fun _ _ => ⟨_, rfl, rfl, Nat.le_of_ble_eq_true rfl, fun _ => rfl⟩
theorem zF_64_4 {cI cJ : ClassId} {ad : Nat → Nat} : zFr cI cJ ad 64 11 4 67 := fun _ _ => ⟨_, rfl, rfl⟩
theorem zF_64_5 {cI cJ : ClassId} {ad : Nat → Nat} : zFi cI cJ ad 64 11 5 0 7 := fun _ _ => ⟨_, rfl, rfl, Nat.le_of_ble_eq_true rfl, fun _ => rfl⟩
theorem zF_64_6 {cI cJ : ClassId} {ad : Nat → Nat} : zFr cI cJ ad 64 11 6 68 := fun _ _ => ⟨_, rfl, rfl⟩
theorem zF_64_7 {cI cJ : ClassId} {ad : Nat → Nat} : zFr cI cJ ad 64 11 7 69 := fun _ _ => ⟨_, rfl, rfl⟩
theorem zF_64_8 {cI cJ : ClassId} {ad : Nat → Nat} : zFi cI cJ ad 64 11 8 0 8 := fun _ _ => ⟨_, rfl, rfl, Nat.le_of_ble_eq_true rfl, fun _ => rfl⟩
theorem zF_64_9 {cI cJ : ClassId} {ad : Nat → Nat} : zFi cI cJ ad 64 11 9 0 9 := fun _ _ => ⟨_, rfl, rfl, Nat.le_of_ble_eq_true rfl, fun _ => rfl⟩
theorem zI_65 {cI cJ : ClassId} {ad : Nat → Nat} : zI cI cJ ad 65 12 3 := fun _ _ => ⟨rfl, fun _ => rfl⟩
theorem zI_66 {cI cJ : ClassId} {ad : Nat → Nat} : zI cI cJ ad 66 1114 4 := fun _ _ => ⟨rfl, fun _ => rfl⟩
theorem zI_67 {cI cJ : ClassId} {ad : Nat → Nat} : zI cI cJ ad 67 1114 5 := fun _ _ => ⟨rfl, fun _ => rfl⟩
theorem zI_68 {cI cJ : ClassId} {ad : Nat → Nat} : zI cI cJ ad 68 80 6 := fun _ _ => ⟨rfl, fun _ => rfl⟩
theorem zI_69 {cI cJ : ClassId} {ad : Nat → Nat} : zI cI cJ ad 69 10 7 := fun _ _ => ⟨rfl, fun _ => rfl⟩
/-! ends and calls -/
def xWi (D : va_G) (cI cJ : ClassId) (ad : Nat → Nat) (A : Nat → Prop) (r : Int32) (u : tU) (v : tV) : Array Value → State → Outcome → State → Prop := fun _ st oc t => oc = .returned (some (.int r)) ∧ va_P D vwCl (wA cI cJ ad u v) t.heap ∧ va_F A st t
def xWl (D : va_G) (cI cJ : ClassId) (ad : Nat → Nat) (A : Nat → Prop) (r : Int64) (u : tU) (v : tV) : Array Value → State → Outcome → State → Prop := fun _ st oc t => oc = .returned (some (.long r)) ∧ va_P D vwCl (wA cI cJ ad u v) t.heap ∧ va_F A st t
def xWv (D : va_G) (cI cJ : ClassId) (ad : Nat → Nat) (A : Nat → Prop) (u : tU) (v : tV) : Array Value → State → Outcome → State → Prop := fun _ st oc t => oc = .returned none ∧ va_P D vwCl (wA cI cJ ad u v) t.heap ∧ va_F A st t
def zLk (own : String) (index : Nat) (ref nm ds : String) (args : Array Value) (s : State) : Prop := (Cond.fieldLink own index ref nm ds).before args s = true ∨ ∃ host, (Cond.fieldLinkNest own index ref nm ds host).before args s = true
section ZROWS
variable {p : Program} {l : Launch} {e : Env} {R : Room} {s : State} {m : MethodId} {args : Array Value} {below : List Frame} {meth : Method} {c : Code} {H H0 : Heap} {locs : List Loc} {cells slots : Nat} {Q : State → Prop} {cc : ByteArray} {pc : Nat} {ls : Array Slot} {rest st0 : List Value} {D : va_G} {cI cJ : ClassId} {ad : Nat → Nat} {u : tU} {v : tV} {A : Nat → Prop} {a : Array Value}
theorem za_callR {r : Int32} (hr : va_Run p l e R s m args below meth c H locs cells slots 0 0 (F0 m pc ls st0) rest (QcRead r a) (fun _ => False)) (kk : W p l e R s m args below meth c H locs cells slots Q (F0 m (pc + 3) ls (.int r :: rest))) : W p l e R s m args below meth c H locs cells slots Q (F0 m pc ls st0) := by
  intro T hT X
  obtain ⟨v, st₀, t, T', L, h0, X', hL, e1, e2, ⟨hv, hh⟩, st⟩ := hr T hT X
  cases hv
  obtain ⟨t2, a1, b1⟩ := kk T' (by rw [e1, hh, h0]) (Stand.forget X' (fun q h => (hL q h).elim))
  exact ⟨t2, st t2 a1, b1⟩
theorem za_callW {vo : Option Value} {u' : tU} {v' : tV} {Qx : Array Value → State → Outcome → State → Prop} (hQ : ∀ st oc t, Qx a st oc t → oc = .returned vo ∧ va_P D vwCl (wA cI cJ ad u' v') t.heap ∧ va_F A st t) (hr : va_Run p l e R s m args below meth c H locs cells slots 0 0 (F0 m pc ls st0) rest (Qx a) A) (hS : va_S A H0 H locs)
    (kk : ∀ (H1 : Heap) (locs1 : List Loc), va_P D vwCl (wA cI cJ ad u' v') H1 → va_S A H0 H1 locs1 → W p l e R s m args below meth c H1 locs1 cells slots Q (F0 m (pc + 3) ls (vo.toList ++ rest))) : W p l e R s m args below meth c H locs cells slots Q (F0 m pc ls st0) := by
  intro T hT X
  obtain ⟨v, st₀, t, T', L, h0, X', hL, e1, e2, hq, st⟩ := hr T hT X
  obtain ⟨hv, hp, hz, hk⟩ := hQ _ _ _ hq
  cases hv
  rw [h0] at hz hk
  obtain ⟨t2, a1, b1⟩ := kk T'.heap (locs ++ L) (by rw [e1]; exact hp) 
    ⟨Nat.le_trans hS.1 (by rw [e1]; exact hz), fun q h1 h2 => by rw [e1, hk q (Nat.lt_of_lt_of_le h1 hS.1) h2]; exact hS.2.1 q h1 h2, fun q hq => by
      rcases List.mem_append.mp hq with h | h
      · exact hS.2.2 q h
      · exact hL q h⟩ T' rfl X'
  exact ⟨t2, st t2 a1, b1⟩
theorem za_callWi {r : Int32} {u' : tU} {v' : tV} (hr : va_Run p l e R s m args below meth c H locs cells slots 0 0 (F0 m pc ls st0) rest (xWi D cI cJ ad A r u' v' a) A) (hS : va_S A H0 H locs)
    (kk : ∀ (H1 : Heap) (locs1 : List Loc), va_P D vwCl (wA cI cJ ad u' v') H1 → va_S A H0 H1 locs1 → W p l e R s m args below meth c H1 locs1 cells slots Q (F0 m (pc + 3) ls (.int r :: rest))) : W p l e R s m args below meth c H locs cells slots Q (F0 m pc ls st0) :=
  za_callW (vo := some (.int r)) (Qx := xWi D cI cJ ad A r u' v') (fun _ _ _ h => h) hr hS kk
theorem za_callWl {r : Int64} {u' : tU} {v' : tV} (hr : va_Run p l e R s m args below meth c H locs cells slots 0 0 (F0 m pc ls st0) rest (xWl D cI cJ ad A r u' v' a) A) (hS : va_S A H0 H locs)
    (kk : ∀ (H1 : Heap) (locs1 : List Loc), va_P D vwCl (wA cI cJ ad u' v') H1 → va_S A H0 H1 locs1 → W p l e R s m args below meth c H1 locs1 cells slots Q (F0 m (pc + 3) ls (.long r :: rest))) : W p l e R s m args below meth c H locs cells slots Q (F0 m pc ls st0) :=
  za_callW (vo := some (.long r)) (Qx := xWl D cI cJ ad A r u' v') (fun _ _ _ h => h) hr hS kk
theorem za_callWv {u' : tU} {v' : tV} (hr : va_Run p l e R s m args below meth c H locs cells slots 0 0 (F0 m pc ls st0) rest (xWv D cI cJ ad A u' v' a) A) (hS : va_S A H0 H locs)
    (kk : ∀ (H1 : Heap) (locs1 : List Loc), va_P D vwCl (wA cI cJ ad u' v') H1 → va_S A H0 H1 locs1 → W p l e R s m args below meth c H1 locs1 cells slots Q (F0 m (pc + 3) ls rest)) : W p l e R s m args below meth c H locs cells slots Q (F0 m pc ls st0) :=
  za_callW (vo := none) (Qx := xWv D cI cJ ad A u' v') (fun _ _ _ h => h) hr hS kk
variable {own C : String} {T : u_T} {N ci index : Nat} {Ts : List Cond} {q k r cl q1 n : Nat}
theorem za_getr (hexec : p.tables.exec = Jvm.exec) (hb : c.code = cc) (hts : ∀ w ∈ Ts, w.before args s = true) (hin : ∀ w ∈ u_ws C T N, w ∈ Ts) (hown : s.vm.findClass own = some m.cls) (hK : xK D cI cJ s) (hP : va_P D vwCl (wA cI cJ ad u v) H) (hz : zFr cI cJ ad q ci k q1) (hc : vwCl[ci]? = some (C, T, N)) (hk : k < N) (hlink : zLk own index (T k).1 (T k).2.1 (T k).2.2.1 args s) (hdg : decode cc pc = .ok (.getfield index, 3))
    (kk : W p l e R s m args below meth c H locs cells slots Q (F0 m (pc + 3) ls (.ref (ad q1) :: rest))) : W p l e R s m args below meth c H locs cells slots Q (F0 m pc ls (.ref (ad q) :: rest)) := by
  obtain ⟨fs, h1, h2⟩ := hz u v
  rcases hlink with h | ⟨host, h⟩
  · exact va_get hexec hb hts hin hown hK.1 hP q h1 hc k hk h (fun _ h9 => h9) h2 hdg kk
  · exact va_getN hexec hb hts hin hown hK.1 hP q h1 hc k hk h (fun _ h9 => h9) h2 hdg kk
theorem za_geti (hexec : p.tables.exec = Jvm.exec) (hb : c.code = cc) (hts : ∀ w ∈ Ts, w.before args s = true) (hin : ∀ w ∈ u_ws C T N, w ∈ Ts) (hown : s.vm.findClass own = some m.cls) (hK : xK D cI cJ s) (hP : va_P D vwCl (wA cI cJ ad u v) H) (hz : zFi cI cJ ad q ci k r cl) (hc : vwCl[ci]? = some (C, T, N)) (hk : k < N) (hlink : zLk own index (T k).1 (T k).2.1 (T k).2.2.1 args s) (hdg : decode cc pc = .ok (.getfield index, 3))
    (kk : W p l e R s m args below meth c H locs cells slots Q (F0 m (pc + 3) ls (.int (u r cl) :: rest))) : W p l e R s m args below meth c H locs cells slots Q (F0 m pc ls (.ref (ad q) :: rest)) := by
  obtain ⟨fs, h1, h2, -⟩ := hz u v
  rcases hlink with h | ⟨host, h⟩
  · exact va_get hexec hb hts hin hown hK.1 hP q h1 hc k hk h (fun _ h9 => h9) h2 hdg kk
  · exact va_getN hexec hb hts hin hown hK.1 hP q h1 hc k hk h (fun _ h9 => h9) h2 hdg kk
theorem za_getl (hexec : p.tables.exec = Jvm.exec) (hb : c.code = cc) (hts : ∀ w ∈ Ts, w.before args s = true) (hin : ∀ w ∈ u_ws C T N, w ∈ Ts) (hown : s.vm.findClass own = some m.cls) (hK : xK D cI cJ s) (hP : va_P D vwCl (wA cI cJ ad u v) H) (hz : zFl cI cJ ad q ci k r cl) (hc : vwCl[ci]? = some (C, T, N)) (hk : k < N) (hlink : zLk own index (T k).1 (T k).2.1 (T k).2.2.1 args s) (hdg : decode cc pc = .ok (.getfield index, 3))
    (kk : W p l e R s m args below meth c H locs cells slots Q (F0 m (pc + 3) ls (.long (v r cl) :: rest))) : W p l e R s m args below meth c H locs cells slots Q (F0 m pc ls (.ref (ad q) :: rest)) := by
  obtain ⟨fs, h1, h2, -⟩ := hz u v
  rcases hlink with h | ⟨host, h⟩
  · exact va_get hexec hb hts hin hown hK.1 hP q h1 hc k hk h (fun _ h9 => h9) h2 hdg kk
  · exact va_getN hexec hb hts hin hown hK.1 hP q h1 hc k hk h (fun _ h9 => h9) h2 hdg kk
theorem za_puti (hexec : p.tables.exec = Jvm.exec) (hb : c.code = cc) (hts : ∀ w ∈ Ts, w.before args s = true) (hin : ∀ w ∈ u_ws C T N, w ∈ Ts) (ty0 : Nat → FieldType) (hty : ∀ k, k < N → parseFieldDescriptor (T k).2.2.1 = some (ty0 k)) (hnm : ∀ a, a < N → ∀ b, b < N → a ≠ b → (T a).2.1 ≠ (T b).2.1) (hown : s.vm.findClass own = some m.cls) (hK : xK D cI cJ s) (hP : va_P D vwCl (wA cI cJ ad u v) H) (hD : zD A cI cJ ad) (hS : va_S A H0 H locs) (hz : zFi cI cJ ad q ci k r cl) (hc : vwCl[ci]? = some (C, T, N)) (hk : k < N) (hlink : zLk own index (T k).1 (T k).2.1 (T k).2.2.1 args s) (hfin : (T k).2.2.2 = false) {x : Int32} (hn : narrow (ty0 k) (.int x) = .int x) (hfit : fits (ty0 k) (.int x) = true) (hdg : decode cc pc = .ok (.putfield index, 3))
    (kk : ∀ (H1 : Heap) (locs1 : List Loc), va_P D vwCl (wA cI cJ ad (sU u r cl x) v) H1 → va_S A H0 H1 locs1 → W p l e R s m args below meth c H1 locs1 cells slots Q (F0 m (pc + 3) ls rest)) : W p l e R s m args below meth c H locs cells slots Q (F0 m pc ls (.int x :: .ref (ad q) :: rest)) := by
  obtain ⟨fs, h1, h2, h3, h4⟩ := hz u v
  rcases hlink with h | ⟨host, h⟩
  · exact va_put hexec hb hts hin ty0 hty hnm hown hK.1 hP (hD u v) hS q h1 hc k hk h (fun _ h9 => h9) hfin (hty k hk) hn hfit h3 hdg (fun H1 locs1 g1 _ g3 => kk H1 locs1 (by rw [← h4]; exact g1) g3)
  · exact va_putN hexec hb hts hin ty0 hty hnm hown hK.1 hP (hD u v) hS q h1 hc k hk h (fun _ h9 => h9) hfin (hty k hk) hn hfit h3 hdg (fun H1 locs1 g1 _ g3 => kk H1 locs1 (by rw [← h4]; exact g1) g3)
theorem za_putl (hexec : p.tables.exec = Jvm.exec) (hb : c.code = cc) (hts : ∀ w ∈ Ts, w.before args s = true) (hin : ∀ w ∈ u_ws C T N, w ∈ Ts) (ty0 : Nat → FieldType) (hty : ∀ k, k < N → parseFieldDescriptor (T k).2.2.1 = some (ty0 k)) (hnm : ∀ a, a < N → ∀ b, b < N → a ≠ b → (T a).2.1 ≠ (T b).2.1) (hown : s.vm.findClass own = some m.cls) (hK : xK D cI cJ s) (hP : va_P D vwCl (wA cI cJ ad u v) H) (hD : zD A cI cJ ad) (hS : va_S A H0 H locs) (hz : zFl cI cJ ad q ci k r cl) (hc : vwCl[ci]? = some (C, T, N)) (hk : k < N) (hlink : zLk own index (T k).1 (T k).2.1 (T k).2.2.1 args s) (hfin : (T k).2.2.2 = false) {x : Int64} (hn : narrow (ty0 k) (.long x) = .long x) (hfit : fits (ty0 k) (.long x) = true) (hdg : decode cc pc = .ok (.putfield index, 3))
    (kk : ∀ (H1 : Heap) (locs1 : List Loc), va_P D vwCl (wA cI cJ ad u (sV v r cl x)) H1 → va_S A H0 H1 locs1 → W p l e R s m args below meth c H1 locs1 cells slots Q (F0 m (pc + 3) ls rest)) : W p l e R s m args below meth c H locs cells slots Q (F0 m pc ls (.long x :: .ref (ad q) :: rest)) := by
  obtain ⟨fs, h1, h2, h3, h4⟩ := hz u v
  rcases hlink with h | ⟨host, h⟩
  · exact va_put hexec hb hts hin ty0 hty hnm hown hK.1 hP (hD u v) hS q h1 hc k hk h (fun _ h9 => h9) hfin (hty k hk) hn hfit h3 hdg (fun H1 locs1 g1 _ g3 => kk H1 locs1 (by rw [← h4]; exact g1) g3)
  · exact va_putN hexec hb hts hin ty0 hty hnm hown hK.1 hP (hD u v) hS q h1 hc k hk h (fun _ h9 => h9) hfin (hty k hk) hn hfit h3 hdg (fun H1 locs1 g1 _ g3 => kk H1 locs1 (by rw [← h4]; exact g1) g3)
theorem za_ild (hexec : p.tables.exec = Jvm.exec) (hb : c.code = cc) (hK : xK D cI cJ s) (hP : va_P D vwCl (wA cI cJ ad u v) H) (hz : zI cI cJ ad q n r) {i : Int32} (hin : vp_in i n) (hdg : decode cc pc = .ok (.iaload, 1))
    (kk : W p l e R s m args below meth c H locs cells slots Q (F0 m (pc + 1) ls (.int (u r i.toNatClampNeg) :: rest))) : W p l e R s m args below meth c H locs cells slots Q (F0 m pc ls (.int i :: .ref (ad q) :: rest)) :=
  va_iald hexec hb hK.1 hP q 0 (hz u v).1 rfl hin hdg kk
theorem za_lld (hexec : p.tables.exec = Jvm.exec) (hb : c.code = cc) (hK : xK D cI cJ s) (hP : va_P D vwCl (wA cI cJ ad u v) H) (hz : zJ cI cJ ad q n r) {i : Int32} (hin : vp_in i n) (hdg : decode cc pc = .ok (.laload, 1))
    (kk : W p l e R s m args below meth c H locs cells slots Q (F0 m (pc + 1) ls (.long (v r i.toNatClampNeg) :: rest))) : W p l e R s m args below meth c H locs cells slots Q (F0 m pc ls (.int i :: .ref (ad q) :: rest)) :=
  va_lald hexec hb hK.1 hP q 1 (hz u v).1 rfl hin hdg kk
theorem za_ist (hexec : p.tables.exec = Jvm.exec) (hb : c.code = cc) (hK : xK D cI cJ s) (hP : va_P D vwCl (wA cI cJ ad u v) H) (hD : zD A cI cJ ad) (hS : va_S A H0 H locs) (hz : zI cI cJ ad q n r) {i x : Int32} (hin : vp_in i n) (hdg : decode cc pc = .ok (.iastore, 1))
    (kk : ∀ (H1 : Heap) (locs1 : List Loc), va_P D vwCl (wA cI cJ ad (sU u r i.toNatClampNeg x) v) H1 → va_S A H0 H1 locs1 → W p l e R s m args below meth c H1 locs1 cells slots Q (F0 m (pc + 1) ls rest)) : W p l e R s m args below meth c H locs cells slots Q (F0 m pc ls (.int x :: .int i :: .ref (ad q) :: rest)) :=
  va_iast hexec hb hK.1 hP (hD u v) hS q 0 (hz u v).1 rfl hin hdg (fun H1 locs1 g1 _ g3 => kk H1 locs1 (by rw [(hz u v).2] at g1; exact g1) g3)
theorem za_lst (hexec : p.tables.exec = Jvm.exec) (hb : c.code = cc) (hK : xK D cI cJ s) (hP : va_P D vwCl (wA cI cJ ad u v) H) (hD : zD A cI cJ ad) (hS : va_S A H0 H locs) (hz : zJ cI cJ ad q n r) {i : Int32} {x : Int64} (hin : vp_in i n) (hdg : decode cc pc = .ok (.lastore, 1))
    (kk : ∀ (H1 : Heap) (locs1 : List Loc), va_P D vwCl (wA cI cJ ad u (sV v r i.toNatClampNeg x)) H1 → va_S A H0 H1 locs1 → W p l e R s m args below meth c H1 locs1 cells slots Q (F0 m (pc + 1) ls rest)) : W p l e R s m args below meth c H locs cells slots Q (F0 m pc ls (.long x :: .int i :: .ref (ad q) :: rest)) :=
  va_last hexec hb hK.1 hP (hD u v) hS q 1 (hz u v).1 rfl hin hdg (fun H1 locs1 g1 _ g3 => kk H1 locs1 (by rw [(hz u v).2] at g1; exact g1) g3)
theorem za_len (hexec : p.tables.exec = Jvm.exec) (hb : c.code = cc) (hK : xK D cI cJ s) (hP : va_P D vwCl (wA cI cJ ad u v) H) (hz : zI cI cJ ad q n r) {x : Int32} (hv : Int32.ofNat n = x) (hdg : decode cc pc = .ok (.arraylength, 1))
    (kk : W p l e R s m args below meth c H locs cells slots Q (F0 m (pc + 1) ls (.int x :: rest))) : W p l e R s m args below meth c H locs cells slots Q (F0 m pc ls (.ref (ad q) :: rest)) :=
  va_alen hexec hb hK.1 hP q 0 (hz u v).1 (ty := .int) rfl hv hdg kk
variable {q2 n2 r2 : Nat}
theorem za_cpi (hexec : p.tables.exec = Jvm.exec) (hb : c.code = cc) (hml : c.maxLocals = ls.size) (hown : s.vm.findClass own = some m.cls) (hlink : (Cond.methodLink own index arraycopyName).before args s = true) (hnat : (Cond.native arraycopyName).before args s = true) (hstat : (Cond.static arraycopyName).before args s = true) (hini : (Cond.initialized "java/lang/System").before args s = true)
    (hK : xK D cI cJ s) (hP : va_P D vwCl (wA cI cJ ad u v) H) (hD : zD A cI cJ ad) (hS : va_S A H0 H locs) (hz : zI cI cJ ad q n r) (hz2 : zI cI cJ ad q2 n2 r2) {sp dp k : Int32} (h1 : ¬ sp < 0) (h2 : ¬ dp < 0) (h3 : ¬ k < 0) (h4 : sp.toNatClampNeg + k.toNatClampNeg ≤ n) (h5 : dp.toNatClampNeg + k.toNatClampNeg ≤ n2)
    (hframes : 1 ≤ R.frames) (hlocals : (rest.map fun v => v.category).sum + (nativeFrameWords "java/lang/System" "arraycopy" 5 + 11) ≤ R.locals) (hdg : decode cc pc = .ok (.invokestatic index, 3))
    (kk : ∀ (H1 : Heap) (locs1 : List Loc), va_P D vwCl (wA cI cJ ad (va_up u r2 (va_cpy (u r) (u r2) sp.toNatClampNeg dp.toNatClampNeg k.toNatClampNeg)) v) H1 → va_S A H0 H1 locs1 → W p l e R s m args below meth c H1 locs1 cells slots Q (F0 m (pc + 3) ls rest)) : W p l e R s m args below meth c H locs cells slots Q (F0 m pc ls (.int k :: .int dp :: .ref (ad q2) :: .int sp :: .ref (ad q) :: rest)) :=
  va_copyi hexec hb hml hown hlink hnat hstat hini hK.1 hP (hD u v) hS q q2 0 0 (hz u v).1 (hz2 u v).1 (ty := .int) rfl rfl rfl h1 h2 h3 h4 h5 (fun _ _ => rfl) hframes hlocals hdg (fun H1 locs1 g1 _ g3 => kk H1 locs1 (by rw [(hz2 u v).2] at g1; exact g1) g3)
theorem za_cpl (hexec : p.tables.exec = Jvm.exec) (hb : c.code = cc) (hml : c.maxLocals = ls.size) (hown : s.vm.findClass own = some m.cls) (hlink : (Cond.methodLink own index arraycopyName).before args s = true) (hnat : (Cond.native arraycopyName).before args s = true) (hstat : (Cond.static arraycopyName).before args s = true) (hini : (Cond.initialized "java/lang/System").before args s = true)
    (hK : xK D cI cJ s) (hP : va_P D vwCl (wA cI cJ ad u v) H) (hD : zD A cI cJ ad) (hS : va_S A H0 H locs) (hz : zJ cI cJ ad q n r) (hz2 : zJ cI cJ ad q2 n2 r2) {sp dp k : Int32} (h1 : ¬ sp < 0) (h2 : ¬ dp < 0) (h3 : ¬ k < 0) (h4 : sp.toNatClampNeg + k.toNatClampNeg ≤ n) (h5 : dp.toNatClampNeg + k.toNatClampNeg ≤ n2)
    (hframes : 1 ≤ R.frames) (hlocals : (rest.map fun v => v.category).sum + (nativeFrameWords "java/lang/System" "arraycopy" 5 + 11) ≤ R.locals) (hdg : decode cc pc = .ok (.invokestatic index, 3))
    (kk : ∀ (H1 : Heap) (locs1 : List Loc), va_P D vwCl (wA cI cJ ad u (va_up v r2 (va_cpy (v r) (v r2) sp.toNatClampNeg dp.toNatClampNeg k.toNatClampNeg))) H1 → va_S A H0 H1 locs1 → W p l e R s m args below meth c H1 locs1 cells slots Q (F0 m (pc + 3) ls rest)) : W p l e R s m args below meth c H locs cells slots Q (F0 m pc ls (.int k :: .int dp :: .ref (ad q2) :: .int sp :: .ref (ad q) :: rest)) :=
  va_copyl hexec hb hml hown hlink hnat hstat hini hK.1 hP (hD u v) hS q q2 1 1 (hz u v).1 (hz2 u v).1 (ty := .long) rfl rfl rfl h1 h2 h3 h4 h5 (fun _ _ => rfl) hframes hlocals hdg (fun H1 locs1 g1 _ g3 => kk H1 locs1 (by rw [(hz2 u v).2] at g1; exact g1) g3)
end ZROWS
theorem nw_27 {U : State} (h : nw_ok U) : va_Nw (.methodLinkNest RX10 9 yX4_init "InstallDesk") U := h _ (List.mem_of_getElem? (i := 27) (by decide +kernel)) rfl
theorem nw_32 {U : State} {A : Array Value} (h : nw_ok U) : zLk RX10 48 "InstallDesk$Letters" "count" "I" A U := Or.inr ⟨"InstallDesk", va_Nw.use rfl (h _ (List.mem_of_getElem? (i := 32) (by decide +kernel)) rfl)⟩
theorem nw_41 {U : State} (h : nw_ok U) : va_Nw (.methodLinkNest RX10 18 yX0_init "InstallDesk") U := h _ (List.mem_of_getElem? (i := 41) (by decide +kernel)) rfl
theorem nw_47 {U : State} (h : nw_ok U) : va_Nw (.methodLinkNest RX0 11 yX6_init "InstallDesk") U := h _ (List.mem_of_getElem? (i := 47) (by decide +kernel)) rfl
theorem nw_52 {U : State} {A : Array Value} (h : nw_ok U) : zLk RX10 68 "InstallDesk$Products" "count" "I" A U := Or.inr ⟨"InstallDesk", va_Nw.use rfl (h _ (List.mem_of_getElem? (i := 52) (by decide +kernel)) rfl)⟩
theorem nw_53 {U : State} {A : Array Value} (h : nw_ok U) : zLk RX5 46 "InstallDesk$Products" "count" "I" A U := Or.inr ⟨"InstallDesk", va_Nw.use rfl (h _ (List.mem_of_getElem? (i := 53) (by decide +kernel)) rfl)⟩
theorem nw_54 {U : State} {A : Array Value} (h : nw_ok U) : zLk RX2 72 "InstallDesk$Products" "count" "I" A U := Or.inr ⟨"InstallDesk", va_Nw.use rfl (h _ (List.mem_of_getElem? (i := 54) (by decide +kernel)) rfl)⟩
theorem nw_56 {U : State} {A : Array Value} (h : nw_ok U) : zLk RX10 77 "InstallDesk$Products" "kinds" "[I" A U := Or.inr ⟨"InstallDesk", va_Nw.use rfl (h _ (List.mem_of_getElem? (i := 56) (by decide +kernel)) rfl)⟩
theorem nw_57 {U : State} {A : Array Value} (h : nw_ok U) : zLk RX2 94 "InstallDesk$Products" "kinds" "[I" A U := Or.inr ⟨"InstallDesk", va_Nw.use rfl (h _ (List.mem_of_getElem? (i := 57) (by decide +kernel)) rfl)⟩
theorem nw_59 {U : State} {A : Array Value} (h : nw_ok U) : zLk RX2 100 "InstallDesk$Products" "parts" "[I" A U := Or.inr ⟨"InstallDesk", va_Nw.use rfl (h _ (List.mem_of_getElem? (i := 59) (by decide +kernel)) rfl)⟩
theorem nw_61 {U : State} {A : Array Value} (h : nw_ok U) : zLk RX2 91 "InstallDesk$Products" "leasts" "[I" A U := Or.inr ⟨"InstallDesk", va_Nw.use rfl (h _ (List.mem_of_getElem? (i := 61) (by decide +kernel)) rfl)⟩
theorem nw_74 {U : State} (h : nw_ok U) : va_Nw (.methodLinkNest RX0 20 yX8_init "InstallDesk") U := h _ (List.mem_of_getElem? (i := 74) (by decide +kernel)) rfl
theorem nw_79 {U : State} {A : Array Value} (h : nw_ok U) : zLk RX0 68 "InstallDesk$Rules" "count" "I" A U := Or.inr ⟨"InstallDesk", va_Nw.use rfl (h _ (List.mem_of_getElem? (i := 79) (by decide +kernel)) rfl)⟩
theorem nw_80 {U : State} {A : Array Value} (h : nw_ok U) : zLk RX10 85 "InstallDesk$Rules" "count" "I" A U := Or.inr ⟨"InstallDesk", va_Nw.use rfl (h _ (List.mem_of_getElem? (i := 80) (by decide +kernel)) rfl)⟩
theorem nw_82 {U : State} {A : Array Value} (h : nw_ok U) : zLk RX0 57 "InstallDesk$Rules" "patterns" "[J" A U := Or.inr ⟨"InstallDesk", va_Nw.use rfl (h _ (List.mem_of_getElem? (i := 82) (by decide +kernel)) rfl)⟩
theorem nw_84 {U : State} {A : Array Value} (h : nw_ok U) : zLk RX0 71 "InstallDesk$Rules" "ranks" "[I" A U := Or.inr ⟨"InstallDesk", va_Nw.use rfl (h _ (List.mem_of_getElem? (i := 84) (by decide +kernel)) rfl)⟩
theorem nw_86 {U : State} {A : Array Value} (h : nw_ok U) : zLk RX0 83 "InstallDesk$Rules" "products" "[I" A U := Or.inr ⟨"InstallDesk", va_Nw.use rfl (h _ (List.mem_of_getElem? (i := 86) (by decide +kernel)) rfl)⟩
theorem nw_99 {U : State} (h : nw_ok U) : va_Nw (.methodLinkNest RX0 27 yX3_init "InstallDesk") U := h _ (List.mem_of_getElem? (i := 99) (by decide +kernel)) rfl
theorem nw_104 {U : State} {A : Array Value} (h : nw_ok U) : zLk RX5 61 "InstallDesk$Hosts" "count" "I" A U := Or.inr ⟨"InstallDesk", va_Nw.use rfl (h _ (List.mem_of_getElem? (i := 104) (by decide +kernel)) rfl)⟩
theorem nw_105 {U : State} {A : Array Value} (h : nw_ok U) : zLk RX2 61 "InstallDesk$Hosts" "count" "I" A U := Or.inr ⟨"InstallDesk", va_Nw.use rfl (h _ (List.mem_of_getElem? (i := 105) (by decide +kernel)) rfl)⟩
theorem nw_106 {U : State} {A : Array Value} (h : nw_ok U) : zLk RX10 117 "InstallDesk$Hosts" "count" "I" A U := Or.inr ⟨"InstallDesk", va_Nw.use rfl (h _ (List.mem_of_getElem? (i := 106) (by decide +kernel)) rfl)⟩
theorem nw_108 {U : State} {A : Array Value} (h : nw_ok U) : zLk RX2 106 "InstallDesk$Hosts" "cores" "[I" A U := Or.inr ⟨"InstallDesk", va_Nw.use rfl (h _ (List.mem_of_getElem? (i := 108) (by decide +kernel)) rfl)⟩
theorem nw_110 {U : State} {A : Array Value} (h : nw_ok U) : zLk RX10 124 "InstallDesk$Hosts" "persons" "[I" A U := Or.inr ⟨"InstallDesk", va_Nw.use rfl (h _ (List.mem_of_getElem? (i := 110) (by decide +kernel)) rfl)⟩
theorem nw_111 {U : State} {A : Array Value} (h : nw_ok U) : zLk RX2 103 "InstallDesk$Hosts" "persons" "[I" A U := Or.inr ⟨"InstallDesk", va_Nw.use rfl (h _ (List.mem_of_getElem? (i := 111) (by decide +kernel)) rfl)⟩
theorem nw_121 {U : State} (h : nw_ok U) : va_Nw (.methodLinkNest RX0 34 yX1_init "InstallDesk") U := h _ (List.mem_of_getElem? (i := 121) (by decide +kernel)) rfl
theorem nw_126 {U : State} {A : Array Value} (h : nw_ok U) : zLk RX2 36 "InstallDesk$Finds" "count" "I" A U := Or.inr ⟨"InstallDesk", va_Nw.use rfl (h _ (List.mem_of_getElem? (i := 126) (by decide +kernel)) rfl)⟩
theorem nw_127 {U : State} {A : Array Value} (h : nw_ok U) : zLk RX10 133 "InstallDesk$Finds" "count" "I" A U := Or.inr ⟨"InstallDesk", va_Nw.use rfl (h _ (List.mem_of_getElem? (i := 127) (by decide +kernel)) rfl)⟩
theorem nw_129 {U : State} {A : Array Value} (h : nw_ok U) : zLk RX0 61 "InstallDesk$Finds" "names" "[J" A U := Or.inr ⟨"InstallDesk", va_Nw.use rfl (h _ (List.mem_of_getElem? (i := 129) (by decide +kernel)) rfl)⟩
theorem nw_131 {U : State} {A : Array Value} (h : nw_ok U) : zLk RX2 50 "InstallDesk$Finds" "hosts" "[I" A U := Or.inr ⟨"InstallDesk", va_Nw.use rfl (h _ (List.mem_of_getElem? (i := 131) (by decide +kernel)) rfl)⟩
theorem nw_133 {U : State} {A : Array Value} (h : nw_ok U) : zLk RX0 85 "InstallDesk$Finds" "days" "[I" A U := Or.inr ⟨"InstallDesk", va_Nw.use rfl (h _ (List.mem_of_getElem? (i := 133) (by decide +kernel)) rfl)⟩
theorem nw_135 {U : State} {A : Array Value} (h : nw_ok U) : zLk RX2 53 "InstallDesk$Finds" "versions" "[I" A U := Or.inr ⟨"InstallDesk", va_Nw.use rfl (h _ (List.mem_of_getElem? (i := 135) (by decide +kernel)) rfl)⟩
theorem nw_149 {U : State} (h : nw_ok U) : va_Nw (.methodLinkNest RX0 41 yX9_init "InstallDesk") U := h _ (List.mem_of_getElem? (i := 149) (by decide +kernel)) rfl
theorem nw_154 {U : State} {A : Array Value} (h : nw_ok U) : zLk RX10 179 "InstallDesk$Uses" "count" "I" A U := Or.inr ⟨"InstallDesk", va_Nw.use rfl (h _ (List.mem_of_getElem? (i := 154) (by decide +kernel)) rfl)⟩
theorem nw_172 {U : State} (h : nw_ok U) : va_Nw (.methodLinkNest RX0 48 yX7_init "InstallDesk") U := h _ (List.mem_of_getElem? (i := 172) (by decide +kernel)) rfl
theorem nw_177 {U : State} {A : Array Value} (h : nw_ok U) : zLk RX5 22 "InstallDesk$Rights" "count" "I" A U := Or.inr ⟨"InstallDesk", va_Nw.use rfl (h _ (List.mem_of_getElem? (i := 177) (by decide +kernel)) rfl)⟩
theorem nw_178 {U : State} {A : Array Value} (h : nw_ok U) : zLk RX10 195 "InstallDesk$Rights" "count" "I" A U := Or.inr ⟨"InstallDesk", va_Nw.use rfl (h _ (List.mem_of_getElem? (i := 178) (by decide +kernel)) rfl)⟩
theorem nw_180 {U : State} {A : Array Value} (h : nw_ok U) : zLk RX5 85 "InstallDesk$Rights" "products" "[I" A U := Or.inr ⟨"InstallDesk", va_Nw.use rfl (h _ (List.mem_of_getElem? (i := 180) (by decide +kernel)) rfl)⟩
theorem nw_181 {U : State} {A : Array Value} (h : nw_ok U) : zLk RX10 205 "InstallDesk$Rights" "products" "[I" A U := Or.inr ⟨"InstallDesk", va_Nw.use rfl (h _ (List.mem_of_getElem? (i := 181) (by decide +kernel)) rfl)⟩
theorem nw_183 {U : State} {A : Array Value} (h : nw_ok U) : zLk RX5 87 "InstallDesk$Rights" "versions" "[I" A U := Or.inr ⟨"InstallDesk", va_Nw.use rfl (h _ (List.mem_of_getElem? (i := 183) (by decide +kernel)) rfl)⟩
theorem nw_185 {U : State} {A : Array Value} (h : nw_ok U) : zLk RX5 37 "InstallDesk$Rights" "amounts" "[I" A U := Or.inr ⟨"InstallDesk", va_Nw.use rfl (h _ (List.mem_of_getElem? (i := 185) (by decide +kernel)) rfl)⟩
theorem nw_186 {U : State} {A : Array Value} (h : nw_ok U) : zLk RX10 202 "InstallDesk$Rights" "amounts" "[I" A U := Or.inr ⟨"InstallDesk", va_Nw.use rfl (h _ (List.mem_of_getElem? (i := 186) (by decide +kernel)) rfl)⟩
theorem nw_188 {U : State} {A : Array Value} (h : nw_ok U) : zLk RX5 82 "InstallDesk$Rights" "prices" "[I" A U := Or.inr ⟨"InstallDesk", va_Nw.use rfl (h _ (List.mem_of_getElem? (i := 188) (by decide +kernel)) rfl)⟩
theorem nw_190 {U : State} {A : Array Value} (h : nw_ok U) : zLk RX5 27 "InstallDesk$Rights" "firstDays" "[I" A U := Or.inr ⟨"InstallDesk", va_Nw.use rfl (h _ (List.mem_of_getElem? (i := 190) (by decide +kernel)) rfl)⟩
theorem nw_192 {U : State} {A : Array Value} (h : nw_ok U) : zLk RX5 30 "InstallDesk$Rights" "lastDays" "[I" A U := Or.inr ⟨"InstallDesk", va_Nw.use rfl (h _ (List.mem_of_getElem? (i := 192) (by decide +kernel)) rfl)⟩
theorem nw_193 {U : State} {A : Array Value} (h : nw_ok U) : zLk RX10 264 "InstallDesk$Rights" "lastDays" "[I" A U := Or.inr ⟨"InstallDesk", va_Nw.use rfl (h _ (List.mem_of_getElem? (i := 193) (by decide +kernel)) rfl)⟩
theorem nw_210 {U : State} {A : Array Value} (h : nw_ok U) : zLk RX10 64 "InstallDesk$Books" "products" "LInstallDesk$Products;" A U := Or.inr ⟨"InstallDesk", va_Nw.use rfl (h _ (List.mem_of_getElem? (i := 210) (by decide +kernel)) rfl)⟩
theorem nw_211 {U : State} {A : Array Value} (h : nw_ok U) : zLk RX5 40 "InstallDesk$Books" "products" "LInstallDesk$Products;" A U := Or.inr ⟨"InstallDesk", va_Nw.use rfl (h _ (List.mem_of_getElem? (i := 211) (by decide +kernel)) rfl)⟩
theorem nw_212 {U : State} {A : Array Value} (h : nw_ok U) : zLk RX2 64 "InstallDesk$Books" "products" "LInstallDesk$Products;" A U := Or.inr ⟨"InstallDesk", va_Nw.use rfl (h _ (List.mem_of_getElem? (i := 212) (by decide +kernel)) rfl)⟩
theorem nw_214 {U : State} {A : Array Value} (h : nw_ok U) : zLk RX10 81 "InstallDesk$Books" "rules" "LInstallDesk$Rules;" A U := Or.inr ⟨"InstallDesk", va_Nw.use rfl (h _ (List.mem_of_getElem? (i := 214) (by decide +kernel)) rfl)⟩
theorem nw_216 {U : State} {A : Array Value} (h : nw_ok U) : zLk RX5 57 "InstallDesk$Books" "hosts" "LInstallDesk$Hosts;" A U := Or.inr ⟨"InstallDesk", va_Nw.use rfl (h _ (List.mem_of_getElem? (i := 216) (by decide +kernel)) rfl)⟩
theorem nw_217 {U : State} {A : Array Value} (h : nw_ok U) : zLk RX2 58 "InstallDesk$Books" "hosts" "LInstallDesk$Hosts;" A U := Or.inr ⟨"InstallDesk", va_Nw.use rfl (h _ (List.mem_of_getElem? (i := 217) (by decide +kernel)) rfl)⟩
theorem nw_218 {U : State} {A : Array Value} (h : nw_ok U) : zLk RX10 113 "InstallDesk$Books" "hosts" "LInstallDesk$Hosts;" A U := Or.inr ⟨"InstallDesk", va_Nw.use rfl (h _ (List.mem_of_getElem? (i := 218) (by decide +kernel)) rfl)⟩
theorem nw_220 {U : State} {A : Array Value} (h : nw_ok U) : zLk RX2 30 "InstallDesk$Books" "finds" "LInstallDesk$Finds;" A U := Or.inr ⟨"InstallDesk", va_Nw.use rfl (h _ (List.mem_of_getElem? (i := 220) (by decide +kernel)) rfl)⟩
theorem nw_221 {U : State} {A : Array Value} (h : nw_ok U) : zLk RX10 103 "InstallDesk$Books" "finds" "LInstallDesk$Finds;" A U := Or.inr ⟨"InstallDesk", va_Nw.use rfl (h _ (List.mem_of_getElem? (i := 221) (by decide +kernel)) rfl)⟩
theorem nw_223 {U : State} {A : Array Value} (h : nw_ok U) : zLk RX10 175 "InstallDesk$Books" "uses" "LInstallDesk$Uses;" A U := Or.inr ⟨"InstallDesk", va_Nw.use rfl (h _ (List.mem_of_getElem? (i := 223) (by decide +kernel)) rfl)⟩
theorem nw_225 {U : State} {A : Array Value} (h : nw_ok U) : zLk RX5 70 "InstallDesk$Books" "rights" "LInstallDesk$Rights;" A U := Or.inr ⟨"InstallDesk", va_Nw.use rfl (h _ (List.mem_of_getElem? (i := 225) (by decide +kernel)) rfl)⟩
theorem nw_226 {U : State} {A : Array Value} (h : nw_ok U) : zLk RX10 191 "InstallDesk$Books" "rights" "LInstallDesk$Rights;" A U := Or.inr ⟨"InstallDesk", va_Nw.use rfl (h _ (List.mem_of_getElem? (i := 226) (by decide +kernel)) rfl)⟩
theorem nw_228 {U : State} {A : Array Value} (h : nw_ok U) : zLk RX10 153 "InstallDesk$Books" "dayNow" "I" A U := Or.inr ⟨"InstallDesk", va_Nw.use rfl (h _ (List.mem_of_getElem? (i := 228) (by decide +kernel)) rfl)⟩
theorem nw_230 {U : State} {A : Array Value} (h : nw_ok U) : zLk RX10 156 "InstallDesk$Books" "keptDays" "I" A U := Or.inr ⟨"InstallDesk", va_Nw.use rfl (h _ (List.mem_of_getElem? (i := 230) (by decide +kernel)) rfl)⟩
theorem nw_250 {U : State} (h : nw_ok U) : va_Nw (.methodLinkNest RX10 28 yX2_init "InstallDesk") U := h _ (List.mem_of_getElem? (i := 250) (by decide +kernel)) rfl
theorem nw_260 {U : State} (h : nw_ok U) : va_Nw (.methodLinkNest RX10 35 yX5_init "InstallDesk") U := h _ (List.mem_of_getElem? (i := 260) (by decide +kernel)) rfl
theorem nw_266 {U : State} {A : Array Value} (h : nw_ok U) : zLk RX10 231 "InstallDesk$Match" "lacking" "I" A U := Or.inr ⟨"InstallDesk", va_Nw.use rfl (h _ (List.mem_of_getElem? (i := 266) (by decide +kernel)) rfl)⟩
theorem nw_268 {U : State} {A : Array Value} (h : nw_ok U) : zLk RX10 224 "InstallDesk$Match" "paid" "I" A U := Or.inr ⟨"InstallDesk", va_Nw.use rfl (h _ (List.mem_of_getElem? (i := 268) (by decide +kernel)) rfl)⟩
theorem nw_309 {U : State} (h : nw_ok U) : va_Nw (.methodLinkNest RX10 52 yX4_add "InstallDesk") U := h _ (List.mem_of_getElem? (i := 309) (by decide +kernel)) rfl
theorem nw_323 {U : State} (h : nw_ok U) : va_Nw (.methodLinkNest RX10 71 yX6_add "InstallDesk") U := h _ (List.mem_of_getElem? (i := 323) (by decide +kernel)) rfl
theorem nw_331 {U : State} (h : nw_ok U) : va_Nw (.methodLinkNest RX10 74 yX6_isOne "InstallDesk") U := h _ (List.mem_of_getElem? (i := 331) (by decide +kernel)) rfl
theorem nw_339 {U : State} (h : nw_ok U) : va_Nw (.methodLinkNest RX10 88 yX4_arePattern "InstallDesk") U := h _ (List.mem_of_getElem? (i := 339) (by decide +kernel)) rfl
theorem nw_343 {U : State} (h : nw_ok U) : va_Nw (.methodLinkNest RX4 19 yX10_signAt "InstallDesk") U := h _ (List.mem_of_getElem? (i := 343) (by decide +kernel)) rfl
theorem nw_346 {U : State} (h : nw_ok U) : va_Nw (.methodLinkNest RX10 92 yX4_take "InstallDesk") U := h _ (List.mem_of_getElem? (i := 346) (by decide +kernel)) rfl
theorem nw_350 {U : State} (h : nw_ok U) : va_Nw (.methodLinkNest RX10 96 yX8_add "InstallDesk") U := h _ (List.mem_of_getElem? (i := 350) (by decide +kernel)) rfl
theorem nw_358 {U : State} (h : nw_ok U) : va_Nw (.methodLinkNest RX10 99 yX8_isOne "InstallDesk") U := h _ (List.mem_of_getElem? (i := 358) (by decide +kernel)) rfl
theorem nw_362 {U : State} (h : nw_ok U) : va_Nw (.methodLinkNest RX10 100 yX8_remove "InstallDesk") U := h _ (List.mem_of_getElem? (i := 362) (by decide +kernel)) rfl
theorem nw_370 {U : State} (h : nw_ok U) : va_Nw (.methodLinkNest RX10 107 yX1_isOne "InstallDesk") U := h _ (List.mem_of_getElem? (i := 370) (by decide +kernel)) rfl
theorem nw_374 {U : State} (h : nw_ok U) : va_Nw (.methodLinkNest RX10 110 yX0_isFitting "InstallDesk") U := h _ (List.mem_of_getElem? (i := 374) (by decide +kernel)) rfl
theorem nw_378 {U : State} (h : nw_ok U) : va_Nw (.methodLinkNest RX0 64 yX10_signAt "InstallDesk") U := h _ (List.mem_of_getElem? (i := 378) (by decide +kernel)) rfl
theorem nw_383 {U : State} (h : nw_ok U) : va_Nw (.methodLinkNest RX10 120 yX3_add "InstallDesk") U := h _ (List.mem_of_getElem? (i := 383) (by decide +kernel)) rfl
theorem nw_391 {U : State} (h : nw_ok U) : va_Nw (.methodLinkNest RX10 123 yX3_isOne "InstallDesk") U := h _ (List.mem_of_getElem? (i := 391) (by decide +kernel)) rfl
theorem nw_405 {U : State} (h : nw_ok U) : va_Nw (.methodLinkNest RX10 134 yX4_areName "InstallDesk") U := h _ (List.mem_of_getElem? (i := 405) (by decide +kernel)) rfl
theorem nw_409 {U : State} (h : nw_ok U) : va_Nw (.methodLinkNest RX10 137 yX1_add "InstallDesk") U := h _ (List.mem_of_getElem? (i := 409) (by decide +kernel)) rfl
theorem nw_417 {U : State} (h : nw_ok U) : va_Nw (.methodLinkNest RX10 140 yX0_goalOf "InstallDesk") U := h _ (List.mem_of_getElem? (i := 417) (by decide +kernel)) rfl
theorem nw_430 {U : State} (h : nw_ok U) : va_Nw (.methodLinkNest RX10 143 yX0_firstRuleOf "InstallDesk") U := h _ (List.mem_of_getElem? (i := 430) (by decide +kernel)) rfl
theorem nw_435 {U : State} (h : nw_ok U) : va_Nw (.methodLinkNest RX10 146 yX0_isCounted "InstallDesk") U := h _ (List.mem_of_getElem? (i := 435) (by decide +kernel)) rfl
theorem nw_443 {U : State} (h : nw_ok U) : va_Nw (.methodLinkNest RX0 91 yX10_isWithin "InstallDesk") U := h _ (List.mem_of_getElem? (i := 443) (by decide +kernel)) rfl
theorem nw_449 {U : State} (h : nw_ok U) : va_Nw (.methodLinkNest RX10 149 yX0_isOfSort "InstallDesk") U := h _ (List.mem_of_getElem? (i := 449) (by decide +kernel)) rfl
theorem nw_458 {U : State} (h : nw_ok U) : va_Nw (.methodLinkNest RX10 152 yX1_remove "InstallDesk") U := h _ (List.mem_of_getElem? (i := 458) (by decide +kernel)) rfl
theorem nw_474 {U : State} (h : nw_ok U) : va_Nw (.methodLinkNest RX10 159 yX2_fill "InstallDesk") U := h _ (List.mem_of_getElem? (i := 474) (by decide +kernel)) rfl
theorem nw_481 {U : State} (h : nw_ok U) : va_Nw (.methodLinkNest RX2 42 yX0_isInTime "InstallDesk") U := h _ (List.mem_of_getElem? (i := 481) (by decide +kernel)) rfl
theorem nw_482 {U : State} (h : nw_ok U) : va_Nw (.methodLinkNest RX2 46 yX0_goalOf "InstallDesk") U := h _ (List.mem_of_getElem? (i := 482) (by decide +kernel)) rfl
theorem nw_497 {U : State} (h : nw_ok U) : va_Nw (.methodLinkNest RX2 75 yX6_isSuite "InstallDesk") U := h _ (List.mem_of_getElem? (i := 497) (by decide +kernel)) rfl
theorem nw_501 {U : State} (h : nw_ok U) : va_Nw (.methodLinkNest RX6 25 yX10_isUnder "InstallDesk") U := h _ (List.mem_of_getElem? (i := 501) (by decide +kernel)) rfl
theorem nw_520 {U : State} (h : nw_ok U) : va_Nw (.methodLinkNest RX10 163 yX2_versionAt "InstallDesk") U := h _ (List.mem_of_getElem? (i := 520) (by decide +kernel)) rfl
theorem nw_532 {U : State} (h : nw_ok U) : va_Nw (.methodLinkNest RX10 251 yX2_howManyHosts "InstallDesk") U := h _ (List.mem_of_getElem? (i := 532) (by decide +kernel)) rfl
theorem nw_536 {U : State} (h : nw_ok U) : va_Nw (.methodLinkNest RX10 255 yX2_howManyPersons "InstallDesk") U := h _ (List.mem_of_getElem? (i := 536) (by decide +kernel)) rfl
theorem nw_540 {U : State} (h : nw_ok U) : va_Nw (.methodLinkNest RX10 258 yX2_coresByEight "InstallDesk") U := h _ (List.mem_of_getElem? (i := 540) (by decide +kernel)) rfl
theorem nw_544 {U : State} (h : nw_ok U) : va_Nw (.methodLinkNest RX10 261 yX9_most "InstallDesk") U := h _ (List.mem_of_getElem? (i := 544) (by decide +kernel)) rfl
theorem nw_567 {U : State} (h : nw_ok U) : va_Nw (.methodLinkNest RX10 182 yX9_add "InstallDesk") U := h _ (List.mem_of_getElem? (i := 567) (by decide +kernel)) rfl
theorem nw_575 {U : State} (h : nw_ok U) : va_Nw (.methodLinkNest RX10 185 yX9_howManyAt "InstallDesk") U := h _ (List.mem_of_getElem? (i := 575) (by decide +kernel)) rfl
theorem nw_580 {U : State} (h : nw_ok U) : va_Nw (.methodLinkNest RX10 188 yX9_peakTick "InstallDesk") U := h _ (List.mem_of_getElem? (i := 580) (by decide +kernel)) rfl
theorem nw_585 {U : State} (h : nw_ok U) : va_Nw (.methodLinkNest RX10 198 yX7_add "InstallDesk") U := h _ (List.mem_of_getElem? (i := 585) (by decide +kernel)) rfl
theorem nw_593 {U : State} (h : nw_ok U) : va_Nw (.methodLinkNest RX10 201 yX7_isOne "InstallDesk") U := h _ (List.mem_of_getElem? (i := 593) (by decide +kernel)) rfl
theorem nw_601 {U : State} (h : nw_ok U) : va_Nw (.methodLinkNest RX10 207 yX6_isFree "InstallDesk") U := h _ (List.mem_of_getElem? (i := 601) (by decide +kernel)) rfl
theorem nw_605 {U : State} (h : nw_ok U) : va_Nw (.methodLinkNest RX10 210 yX7_isServing "InstallDesk") U := h _ (List.mem_of_getElem? (i := 605) (by decide +kernel)) rfl
theorem nw_609 {U : State} (h : nw_ok U) : va_Nw (.methodLinkNest RX7 34 yX10_isWithin "InstallDesk") U := h _ (List.mem_of_getElem? (i := 609) (by decide +kernel)) rfl
theorem nw_622 {U : State} (h : nw_ok U) : va_Nw (.methodLinkNest RX10 216 yX5_begin "InstallDesk") U := h _ (List.mem_of_getElem? (i := 622) (by decide +kernel)) rfl
theorem nw_626 {U : State} (h : nw_ok U) : va_Nw (.methodLinkNest RX5 33 yX10_isWithin "InstallDesk") U := h _ (List.mem_of_getElem? (i := 626) (by decide +kernel)) rfl
theorem nw_627 {U : State} (h : nw_ok U) : va_Nw (.methodLinkNest RX10 220 yX5_serveAll "InstallDesk") U := h _ (List.mem_of_getElem? (i := 627) (by decide +kernel)) rfl
theorem nw_635 {U : State} (h : nw_ok U) : va_Nw (.methodLinkNest RX5 53 yX6_isFree "InstallDesk") U := h _ (List.mem_of_getElem? (i := 635) (by decide +kernel)) rfl
theorem nw_636 {U : State} (h : nw_ok U) : va_Nw (.methodLinkNest RX5 64 yX2_versionAt "InstallDesk") U := h _ (List.mem_of_getElem? (i := 636) (by decide +kernel)) rfl
theorem nw_653 {U : State} (h : nw_ok U) : va_Nw (.methodLinkNest RX10 227 yX5_serveProduct "InstallDesk") U := h _ (List.mem_of_getElem? (i := 653) (by decide +kernel)) rfl
theorem nw_658 {U : State} (h : nw_ok U) : va_Nw (.methodLinkNest RX10 234 yX5_leaveOut "InstallDesk") U := h _ (List.mem_of_getElem? (i := 658) (by decide +kernel)) rfl
theorem nw_666 {U : State} (h : nw_ok U) : va_Nw (.methodLinkNest RX10 237 yX2_leaveOut "InstallDesk") U := h _ (List.mem_of_getElem? (i := 666) (by decide +kernel)) rfl
theorem nw_682 {U : State} (h : nw_ok U) : va_Nw (.methodLinkNest RX10 241 yX0_copyFrom "InstallDesk") U := h _ (List.mem_of_getElem? (i := 682) (by decide +kernel)) rfl
theorem nw_686 {U : State} (h : nw_ok U) : va_Nw (.methodLinkNest RX0 105 yX6_copyFrom "InstallDesk") U := h _ (List.mem_of_getElem? (i := 686) (by decide +kernel)) rfl
theorem nw_693 {U : State} (h : nw_ok U) : va_Nw (.methodLinkNest RX0 109 yX8_copyFrom "InstallDesk") U := h _ (List.mem_of_getElem? (i := 693) (by decide +kernel)) rfl
theorem nw_698 {U : State} (h : nw_ok U) : va_Nw (.methodLinkNest RX0 112 yX3_copyFrom "InstallDesk") U := h _ (List.mem_of_getElem? (i := 698) (by decide +kernel)) rfl
theorem nw_703 {U : State} (h : nw_ok U) : va_Nw (.methodLinkNest RX0 115 yX1_copyFrom "InstallDesk") U := h _ (List.mem_of_getElem? (i := 703) (by decide +kernel)) rfl
theorem nw_708 {U : State} (h : nw_ok U) : va_Nw (.methodLinkNest RX0 118 yX9_copyFrom "InstallDesk") U := h _ (List.mem_of_getElem? (i := 708) (by decide +kernel)) rfl
theorem nw_713 {U : State} (h : nw_ok U) : va_Nw (.methodLinkNest RX0 121 yX7_copyFrom "InstallDesk") U := h _ (List.mem_of_getElem? (i := 713) (by decide +kernel)) rfl
