theorem dX0_swap_0 : decode cX0_swap 0 = .ok (.aload_n 0, 1) := by decide +kernel
theorem dX0_swap_1 : decode cX0_swap 1 = .ok (.getfield 24, 3) := by decide +kernel
theorem dX0_swap_4 : decode cX0_swap 4 = .ok (.iload_n 1, 1) := by decide +kernel
theorem dX0_swap_5 : decode cX0_swap 5 = .ok (.iaload, 1) := by decide +kernel
theorem dX0_swap_6 : decode cX0_swap 6 = .ok (.istore_n 3, 1) := by decide +kernel
theorem dX0_swap_7 : decode cX0_swap 7 = .ok (.aload_n 0, 1) := by decide +kernel
theorem dX0_swap_8 : decode cX0_swap 8 = .ok (.getfield 24, 3) := by decide +kernel
theorem dX0_swap_11 : decode cX0_swap 11 = .ok (.iload_n 1, 1) := by decide +kernel
theorem dX0_swap_12 : decode cX0_swap 12 = .ok (.aload_n 0, 1) := by decide +kernel
theorem dX0_swap_13 : decode cX0_swap 13 = .ok (.getfield 24, 3) := by decide +kernel
theorem dX0_swap_16 : decode cX0_swap 16 = .ok (.iload_n 2, 1) := by decide +kernel
theorem dX0_swap_17 : decode cX0_swap 17 = .ok (.iaload, 1) := by decide +kernel
theorem dX0_swap_18 : decode cX0_swap 18 = .ok (.iastore, 1) := by decide +kernel
theorem dX0_swap_19 : decode cX0_swap 19 = .ok (.aload_n 0, 1) := by decide +kernel
theorem dX0_swap_20 : decode cX0_swap 20 = .ok (.getfield 24, 3) := by decide +kernel
theorem dX0_swap_23 : decode cX0_swap 23 = .ok (.iload_n 2, 1) := by decide +kernel
theorem dX0_swap_24 : decode cX0_swap 24 = .ok (.iload_n 3, 1) := by decide +kernel
theorem dX0_swap_25 : decode cX0_swap 25 = .ok (.iastore, 1) := by decide +kernel
theorem dX0_swap_26 : decode cX0_swap 26 = .ok (.return_, 1) := by decide +kernel

/-! X0_swap -/
def wX0_swap (Q : (Nat → Int32) → Prop) (x1 : Int32) (x2 : Int32) (r_tried : Nat → Int32) : Prop :=
  (vp_in x1 6 ∧ (vp_in x2 6 ∧ (vp_in x1 6 ∧ (vp_in x2 6 ∧ (Q (upd (upd r_tried x1.toNatClampNeg (r_tried x2.toNatClampNeg)) x2.toNatClampNeg (r_tried x1.toNatClampNeg)))))))
abbrev vX0_swap (cI cZ : ClassId) (h h_from h_takes h_worth h_settled h_tried : Nat) (f_size : Int32) (f_settledSize : Int32) (r_tried : Nat → Int32) : va_W := [(h, .inr (0, [.ref h_from, .ref h_takes, .ref h_worth, .ref h_settled, .ref h_tried, .int f_size, .int f_settledSize])), (h_tried, .inl (cI, 6, .inl r_tried))]
abbrev rmX0_swap : Room := { frames := 0, cells := 0, slots := 0, locals := 0 }
abbrev qX0_swap (dC : Nat → ClassId) (dI : Nat → Nat → Nat) (cI cZ cO cW : ClassId) (h h_from h_takes h_worth h_settled h_tried : Nat) (f_size : Int32) (f_settledSize : Int32) (Q : (Nat → Int32) → Prop) (A : Nat → Prop) : Array Value → State → Outcome → State → Prop := va_Qv (fun (u : (Nat → Int32)) => Q u) (fun (u : (Nat → Int32)) (t : State) => va_P (dC, dI) vwCl (vX0_swap cI cZ h h_from h_takes h_worth h_settled h_tried f_size f_settledSize u) t.heap ∧ va_K (dC, dI) vwCl (tysA cI cZ cO cW) t ∧ va_D A (vX0_swap cI cZ h h_from h_takes h_worth h_settled h_tried f_size f_settledSize u)) A
theorem mX0_swap_0 : Cond.fieldLink RX0 24 "IcePilots$Convoy" "tried" "[I" ∈ wsX0_swap := by decide +kernel
theorem uX0_swap_X0 : ∀ w ∈ u_ws RX0 TX0 7, w ∈ wsX0_swap := by decide +kernel
set_option maxHeartbeats 4000000 in
set_option maxRecDepth 100000 in
theorem tX0_swap_e {p : Program} {l : Launch} {e : Env} {s : State} {m : MethodId} {args : Array Value} {below : List Frame} {meth : Method} {c : Code} {dC : Nat → ClassId} {dI : Nat → Nat → Nat} {cI cZ cO cW : ClassId} {A : Nat → Prop} {h h_from h_takes h_worth h_settled h_tried : Nat} {f_size f_settledSize : Int32} {Q : (Nat → Int32) → Prop} (hC : Cx p s m args meth c cX0_swap none 4 wsX0_swap RX0) (hK : va_K (dC, dI) vwCl (tysA cI cZ cO cW) s) (hA : ∀ q : Nat, s.heap.size ≤ q → A q) :
    ∀ (x1 : Int32) (x2 : Int32) (r_tried : Nat → Int32) (H : Heap) (locs : List Loc) (ls : Array Slot), wX0_swap Q x1 x2 r_tried → va_P (dC, dI) vwCl (vX0_swap cI cZ h h_from h_takes h_worth h_settled h_tried f_size f_settledSize r_tried) H → va_D A (vX0_swap cI cZ h h_from h_takes h_worth h_settled h_tried f_size f_settledSize r_tried) → va_S A s.heap H locs → lv_has ls 4 [(0, .ref h), (1, .int x1), (2, .int x2)] → W p l e rmX0_swap s m args below meth c H locs 0 0 (MQ below (qX0_swap dC dI cI cZ cO cW h h_from h_takes h_worth h_settled h_tried f_size f_settledSize Q A) args s 0 0 A) (F0 m 0 ls []) := by
  obtain ⟨hx, hb, hr, hml, hown, hts, hlocks⟩ := id hC
  intro x1 x2 r_tried H locs ls hw hP hD hS hl
  refine lv_aload_n hx hb dX0_swap_0 rfl (lv_at hl 0 rfl) ?_
  refine va_get (D := (dC, dI)) (ci := 0) (v := .ref h_tried) (C := RX0) (T := TX0) (N := 7) hx hb hts uX0_swap_X0 hown hK hP 0 rfl rfl 4 (by decide) (hts _ mX0_swap_0) (fun _ h9 => h9) rfl dX0_swap_1 ?_
  refine lv_iload_n hx hb dX0_swap_4 rfl (lv_at hl 1 rfl) ?_
  obtain ⟨h_1, hw⟩ := hw
  refine va_iald hx hb hK hP 1 0 rfl rfl h_1 dX0_swap_5 ?_
  refine lv_istore_n (lv' := [(3, .int (r_tried x1.toNatClampNeg)), (0, .ref h), (1, .int x1), (2, .int x2)]) hx hb dX0_swap_6 rfl hl (by decide) rfl (fun ls hl => ?_)
  refine lv_aload_n hx hb dX0_swap_7 rfl (lv_at hl 1 rfl) ?_
  refine va_get (D := (dC, dI)) (ci := 0) (v := .ref h_tried) (C := RX0) (T := TX0) (N := 7) hx hb hts uX0_swap_X0 hown hK hP 0 rfl rfl 4 (by decide) (hts _ mX0_swap_0) (fun _ h9 => h9) rfl dX0_swap_8 ?_
  refine lv_iload_n hx hb dX0_swap_11 rfl (lv_at hl 2 rfl) ?_
  refine lv_aload_n hx hb dX0_swap_12 rfl (lv_at hl 1 rfl) ?_
  refine va_get (D := (dC, dI)) (ci := 0) (v := .ref h_tried) (C := RX0) (T := TX0) (N := 7) hx hb hts uX0_swap_X0 hown hK hP 0 rfl rfl 4 (by decide) (hts _ mX0_swap_0) (fun _ h9 => h9) rfl dX0_swap_13 ?_
  refine lv_iload_n hx hb dX0_swap_16 rfl (lv_at hl 3 rfl) ?_
  obtain ⟨h_2, hw⟩ := hw
  refine va_iald hx hb hK hP 1 0 rfl rfl h_2 dX0_swap_17 ?_
  obtain ⟨h_3, hw⟩ := hw
  refine va_iast hx hb hK hP hD hS 1 0 rfl rfl h_3 dX0_swap_18 (fun H locs hP hD hS => ?_)
  have hP : va_P (dC, dI) vwCl [(h, .inr (0, [.ref h_from, .ref h_takes, .ref h_worth, .ref h_settled, .ref h_tried, .int f_size, .int f_settledSize])), (h_tried, .inl (cI, 6, .inl (upd r_tried x1.toNatClampNeg (r_tried x2.toNatClampNeg))))] _ := hP
  have hD : va_D A [(h, .inr (0, [.ref h_from, .ref h_takes, .ref h_worth, .ref h_settled, .ref h_tried, .int f_size, .int f_settledSize])), (h_tried, .inl (cI, 6, .inl (upd r_tried x1.toNatClampNeg (r_tried x2.toNatClampNeg))))] := hD
  refine lv_aload_n hx hb dX0_swap_19 rfl (lv_at hl 1 rfl) ?_
  refine va_get (D := (dC, dI)) (ci := 0) (v := .ref h_tried) (C := RX0) (T := TX0) (N := 7) hx hb hts uX0_swap_X0 hown hK hP 0 rfl rfl 4 (by decide) (hts _ mX0_swap_0) (fun _ h9 => h9) rfl dX0_swap_20 ?_
  refine lv_iload_n hx hb dX0_swap_23 rfl (lv_at hl 3 rfl) ?_
  refine lv_iload_n hx hb dX0_swap_24 rfl (lv_at hl 0 rfl) ?_
  obtain ⟨h_4, hw⟩ := hw
  refine va_iast hx hb hK hP hD hS 1 0 rfl rfl h_4 dX0_swap_25 (fun H locs hP hD hS => ?_)
  have hP : va_P (dC, dI) vwCl [(h, .inr (0, [.ref h_from, .ref h_takes, .ref h_worth, .ref h_settled, .ref h_tried, .int f_size, .int f_settledSize])), (h_tried, .inl (cI, 6, .inl (upd (upd r_tried x1.toNatClampNeg (r_tried x2.toNatClampNeg)) x2.toNatClampNeg (r_tried x1.toNatClampNeg))))] _ := hP
  have hD : va_D A [(h, .inr (0, [.ref h_from, .ref h_takes, .ref h_worth, .ref h_settled, .ref h_tried, .int f_size, .int f_settledSize])), (h_tried, .inl (cI, 6, .inl (upd (upd r_tried x1.toNatClampNeg (r_tried x2.toNatClampNeg)) x2.toNatClampNeg (r_tried x1.toNatClampNeg))))] := hD
  have hP9 := hP.sub (ws' := (vX0_swap cI cZ h h_from h_takes h_worth h_settled h_tried f_size f_settledSize (upd (upd r_tried x1.toNatClampNeg (r_tried x2.toNatClampNeg)) x2.toNatClampNeg (r_tried x1.toNatClampNeg)))) [0, 1] rfl
  have hD9 := hD.sub (ws' := (vX0_swap cI cZ h h_from h_takes h_worth h_settled h_tried f_size f_settledSize (upd (upd r_tried x1.toNatClampNeg (r_tried x2.toNatClampNeg)) x2.toNatClampNeg (r_tried x1.toNatClampNeg)))) [0, 1] (by decide) rfl
  exact W.vret hx hb hr (fun t ht hW => ⟨⟨(upd (upd r_tried x1.toNatClampNeg (r_tried x2.toNatClampNeg)) x2.toNatClampNeg (r_tried x1.toNatClampNeg)), rfl, hw, by rw [ht]; exact hP9, va_K.moved hW.alike hK, hD9⟩, hS.F ht⟩) hS.2.2 dX0_swap_26
set_option maxHeartbeats 4000000 in
set_option maxRecDepth 100000 in
theorem kX0_swap (l : Launch) (dC : Nat → ClassId) (dI : Nat → Nat → Nat) (cI cZ cO cW : ClassId) (h h_from h_takes h_worth h_settled h_tried : Nat)  (sz : Nat) (f_size : Int32) (f_settledSize : Int32) (r_tried : Nat → Int32) (x1 : Int32) (x2 : Int32) (Q : (Nat → Int32) → Prop) (hw : wX0_swap Q x1 x2 r_tried) : Met l yX0_swap wsX0_swap rmX0_swap (va_Pc [.ref h, .int x1, .int x2] (fun U => U.heap.size = sz ∧ va_P (dC, dI) vwCl (vX0_swap cI cZ h h_from h_takes h_worth h_settled h_tried f_size f_settledSize r_tried) U.heap ∧ va_K (dC, dI) vwCl (tysA cI cZ cO cW) U ∧ va_D (fun _ => True) (vX0_swap cI cZ h h_from h_takes h_worth h_settled h_tried f_size f_settledSize r_tried))) (qX0_swap dC dI cI cZ cO cW h h_from h_takes h_worth h_settled h_tried f_size f_settledSize Q (va_A (vX0_swap cI cZ h h_from h_takes h_worth h_settled h_tried f_size f_settledSize r_tried) sz)) 0 0 (va_A (vX0_swap cI cZ h h_from h_takes h_worth h_settled h_tried f_size f_settledSize r_tried) sz) := by
  refine Met.ofW (cc := cX0_swap) (maxL := 4) (ret := none) (by decide) rfl ?_
  intro p e s m args below meth c s₁ B hml hv
  obtain ⟨rfl, hsz, hP, hK, hD0⟩ := hv
  subst hsz
  have hC : Cx p s m ([.ref h, .int x1, .int x2] : List Value).toArray meth c cX0_swap none 4 wsX0_swap RX0 := ⟨B.exec, B.bytes, B.returns, hml, findClass_of_methodNamed B.named, atoms_spec (ws := wsX0_swap) B.pre, B.notSynchronized⟩
  have hD := hD0.self (sz := s.heap.size)
  generalize hAe : va_A (vX0_swap cI cZ h h_from h_takes h_worth h_settled h_tried f_size f_settledSize r_tried) s.heap.size = A at hD ⊢
  have hA : ∀ q : Nat, s.heap.size ≤ q → A q := fun q h => by rw [← hAe]; exact Or.inr h
  have hl := lv_entry ([.ref h, .int x1, .int x2]) (n := 4) (Nat.le_of_ble_eq_true rfl)
  rw [lg_entry_eq]
  generalize (lg_sl ([.ref h, .int x1, .int x2]) ++ List.replicate (4 - (lg_sl ([.ref h, .int x1, .int x2])).length) Slot.unset).toArray = ls at hl ⊢
  exact tX0_swap_e hC hK hA x1 x2 r_tried _ _ ls hw hP hD va_S.rf hl
