theorem dJ7_copyOf_59c91_0 : decode cJ7_copyOf_59c91 0 = .ok (.iload_n 1, 1) := by decide +kernel
theorem dJ7_copyOf_59c91_1 : decode cJ7_copyOf_59c91 1 = .ok (.aload_n 0, 1) := by decide +kernel
theorem dJ7_copyOf_59c91_2 : decode cJ7_copyOf_59c91 2 = .ok (.arraylength, 1) := by decide +kernel
theorem dJ7_copyOf_59c91_3 : decode cJ7_copyOf_59c91 3 = .ok (.if_icmp .ne 11, 3) := by decide +kernel
theorem dJ7_copyOf_59c91_6 : decode cJ7_copyOf_59c91 6 = .ok (.aload_n 0, 1) := by decide +kernel
theorem dJ7_copyOf_59c91_7 : decode cJ7_copyOf_59c91 7 = .ok (.invokevirtual 316, 3) := by decide +kernel
theorem dJ7_copyOf_59c91_10 : decode cJ7_copyOf_59c91 10 = .ok (.checkcast 317, 3) := by decide +kernel
theorem dJ7_copyOf_59c91_13 : decode cJ7_copyOf_59c91 13 = .ok (.areturn, 1) := by decide +kernel
theorem dJ7_copyOf_59c91_14 : decode cJ7_copyOf_59c91 14 = .ok (.iload_n 1, 1) := by decide +kernel
theorem dJ7_copyOf_59c91_15 : decode cJ7_copyOf_59c91 15 = .ok (.newarray .int, 2) := by decide +kernel
theorem dJ7_copyOf_59c91_17 : decode cJ7_copyOf_59c91 17 = .ok (.astore_n 2, 1) := by decide +kernel
theorem dJ7_copyOf_59c91_18 : decode cJ7_copyOf_59c91 18 = .ok (.aload_n 0, 1) := by decide +kernel
theorem dJ7_copyOf_59c91_19 : decode cJ7_copyOf_59c91 19 = .ok (.iconst 0, 1) := by decide +kernel
theorem dJ7_copyOf_59c91_20 : decode cJ7_copyOf_59c91 20 = .ok (.aload_n 2, 1) := by decide +kernel
theorem dJ7_copyOf_59c91_21 : decode cJ7_copyOf_59c91 21 = .ok (.iconst 0, 1) := by decide +kernel
theorem dJ7_copyOf_59c91_22 : decode cJ7_copyOf_59c91 22 = .ok (.aload_n 0, 1) := by decide +kernel
theorem dJ7_copyOf_59c91_23 : decode cJ7_copyOf_59c91 23 = .ok (.arraylength, 1) := by decide +kernel
theorem dJ7_copyOf_59c91_24 : decode cJ7_copyOf_59c91 24 = .ok (.iload_n 1, 1) := by decide +kernel
theorem dJ7_copyOf_59c91_25 : decode cJ7_copyOf_59c91 25 = .ok (.invokestatic 304, 3) := by decide +kernel
theorem dJ7_copyOf_59c91_28 : decode cJ7_copyOf_59c91 28 = .ok (.invokestatic 150, 3) := by decide +kernel
theorem dJ7_copyOf_59c91_31 : decode cJ7_copyOf_59c91 31 = .ok (.aload_n 2, 1) := by decide +kernel
theorem dJ7_copyOf_59c91_32 : decode cJ7_copyOf_59c91 32 = .ok (.areturn, 1) := by decide +kernel
def zsJ7_copyOf_59c91 : List Cond := Cond.code yJ7_copyOf_59c91 cJ7_copyOf_59c91 3 (some (.array .int)) :: GW
abbrev rmJ7_copyOf_59c91 : Room := { frames := 1, cells := 1, slots := 400, locals := 40 }
def CLN (U : State) : Prop := va_Nw (.castable "[I" "java/lang/Cloneable") U
theorem psC_of {s : State} {H : Heap} {D : va_G} {cl : List vw_C} {ws : va_W} {tys : List (ClassId × FieldType)} {av : List Value} {A : Nat → Prop} (hP : va_P D cl ws H) (hK : va_K D cl tys s) (hD : va_D A ws) (hN : CLN s) : PreS s H (va_Pc av (fun U => U.heap.size = H.size ∧ va_P D cl ws U.heap ∧ va_K D cl tys U ∧ va_D (fun _ => True) ws ∧ CLN U)) av :=
  ⟨fun a U g mk q => by
    obtain ⟨q0, q1, qP, qK, qD, qN⟩ := q
    exact ⟨q0, q1, qP, va_K.moved (u := U) (U := U.calling g mk a) (Vm.Alike.refl U.vm) qK, qD, va_Nw.same (u := U) (U := U.calling g mk a) rfl rfl qN⟩,
   fun U hU hW => ⟨rfl, by rw [hU], by rw [hU]; exact hP, va_K.moved hW.alike hK, hD.weaken (fun _ _ _ _ => trivial), va_Nw.warmC hW hN⟩⟩
set_option maxHeartbeats 4000000 in
set_option maxRecDepth 100000 in
/-- Arrays.copyOf(row, n), n no more than the row's length: a new row that holds the first n -/
theorem kJ7_copyOf_59c91 (l : Launch) (dC : Nat → ClassId) (dI : Nat → Nat → Nat) (cI cZ cO cW : ClassId) (a0 sz N0 k : Nat) (f : Nat → Int32) (hk : k ≤ N0) (hN : N0 ≤ 400) : Met l yJ7_copyOf_59c91 zsJ7_copyOf_59c91 rmJ7_copyOf_59c91 (va_Pc [.ref a0, .int (nI k)] (fun U => U.heap.size = sz ∧ va_P (dC, dI) vwCl [(a0, .inl (cI, N0, .inl f))] U.heap ∧ va_K (dC, dI) vwCl (tysA cI cZ cO cW) U ∧ va_D (fun _ => True) [(a0, .inl (cI, N0, .inl f))] ∧ CLN U)) (va_Qr (fun (g : Nat → Int32) => ∀ j, j < k → g j = f j) (fun g a t => va_P (dC, dI) vwCl [(a0, .inl (cI, N0, .inl f)), (a, .inl (cI, k, .inl g))] t.heap ∧ va_K (dC, dI) vwCl (tysA cI cZ cO cW) t ∧ va_D (va_A [(a0, .inl (cI, N0, .inl f))] sz) [(a0, .inl (cI, N0, .inl f)), (a, .inl (cI, k, .inl g))]) (va_A [(a0, .inl (cI, N0, .inl f))] sz)) 1 400 (va_A [(a0, .inl (cI, N0, .inl f))] sz) := by
  refine Met.ofW (cc := cJ7_copyOf_59c91) (maxL := 3) (ret := (some (.array .int))) (by decide) rfl ?_
  intro p e s m args below meth c s₁ B hml hv
  obtain ⟨rfl, hsz, hP, hK, hD0, hN0⟩ := hv
  subst hsz
  have hx := B.exec
  have hb := B.bytes
  have hr := B.returns
  have hts : ∀ w ∈ GW, w.before _ s = true := fun w h => atoms_spec (ws := zsJ7_copyOf_59c91) B.pre w (List.mem_cons_of_mem _ h)
  have hown : s.vm.findClass RJ7 = some m.cls := findClass_of_methodNamed B.named
  have hlocks := B.notSynchronized
  have hD := hD0.self (sz := s.heap.size)
  generalize hAe : va_A [(a0, .inl (cI, N0, .inl f))] s.heap.size = A at hD ⊢
  have hA : ∀ q : Nat, s.heap.size ≤ q → A q := fun q h => by rw [← hAe]; exact Or.inr h
  have hS : va_S A s.heap s.heap [] := va_S.rf
  have hnm : s.vm.findClass "[I" = some cI := va_nm_int (hK.2 0 (cI, .int) rfl).2
  have hl := lv_entry ([.ref a0, .int (nI k)]) (n := 3) (Nat.le_of_ble_eq_true rfl)
  rw [lg_entry_eq]
  generalize (lg_sl ([.ref a0, .int (nI k)]) ++ List.replicate (3 - (lg_sl ([.ref a0, .int (nI k)])).length) Slot.unset).toArray = ls at hl ⊢
  have hl : lv_has ls 3 [(0, .ref a0), (1, .int (nI k))] := hl
  refine lv_iload_n hx hb dJ7_copyOf_59c91_0 rfl (lv_at hl 1 rfl) ?_
  refine lv_aload_n hx hb dJ7_copyOf_59c91_1 rfl (lv_at hl 0 rfl) ?_
  refine va_alen (v := nI N0) hx hb hK hP 0 0 rfl rfl rfl dJ7_copyOf_59c91_2 ?_
  refine lv_icmp_ne (tgt := 14) hx hb dJ7_copyOf_59c91_3 (by decide) (fun c1 => ?_) (fun c1 => ?_)
  · refine lv_iload_n hx hb dJ7_copyOf_59c91_14 rfl (lv_at hl 1 rfl) ?_
    refine nw_I (N' := k) hx hb (hts _ gw_4) hK hP hD hS hA (nI_pos (by omega)) (nI_clamp (by omega)) (show k * 4 ≤ 536870912 by omega) (Nat.le_of_ble_eq_true rfl) (show 0 + k ≤ 400 by omega) dJ7_copyOf_59c91_15 (fun q H hP hD hS => ?_)
    have hP : va_P (dC, dI) vwCl [(a0, .inl (cI, N0, .inl f)), (q, .inl (cI, k, .inl (fun _ => 0)))] H := hP
    have hD : va_D A [(a0, .inl (cI, N0, .inl f)), (q, .inl (cI, k, .inl (fun _ => 0)))] := hD
    refine W.widen (k := 1) (n := 400) (by omega) (by omega) ?_
    refine lv_astore_n (lv' := [(2, .ref q), (0, .ref a0), (1, .int (nI k))]) hx hb dJ7_copyOf_59c91_17 rfl hl (by decide) rfl (fun ls hl => ?_)
    refine lv_aload_n hx hb dJ7_copyOf_59c91_18 rfl (lv_at hl 1 rfl) ?_
    refine lv_iconst (v := 0) hx hb dJ7_copyOf_59c91_19 (by decide) ?_
    refine lv_aload_n hx hb dJ7_copyOf_59c91_20 rfl (lv_at hl 0 rfl) ?_
    refine lv_iconst (v := 0) hx hb dJ7_copyOf_59c91_21 (by decide) ?_
    refine lv_aload_n hx hb dJ7_copyOf_59c91_22 rfl (lv_at hl 1 rfl) ?_
    refine va_alen (v := nI N0) hx hb hK hP 0 0 rfl rfl rfl dJ7_copyOf_59c91_23 ?_
    refine lv_iload_n hx hb dJ7_copyOf_59c91_24 rfl (lv_at hl 2 rfl) ?_
    refine va_mmin hx hb (hml.trans hl.1.symm) hown (hts _ gw_416) (hts _ gw_210) (hts _ gw_21) (hts _ gw_211) (Nat.le_of_ble_eq_true rfl) (Nat.le_of_ble_eq_true rfl) (Nat.le_refl 1) (Nat.le_refl 400) dJ7_copyOf_59c91_25 ?_
    have eM : (if nI k < nI N0 then nI k else nI N0) = nI k := by
      by_cases h : nI k < nI N0
      · rw [if_pos h]
      · rw [if_neg h]
        have : ¬ k < N0 := fun h2 => h (nI_lt h2 (by omega))
        have : k = N0 := by omega
        rw [this]
    rw [eM]
    refine va_copyi hx hb (hml.trans hl.1.symm) hown (hts _ gw_417) (hts _ gw_14) (hts _ gw_15) (hts _ gw_16) hK hP hD hS 0 1 0 0 rfl rfl rfl rfl rfl (by decide) (by decide) (nI_pos (by omega)) (by rw [nI_clamp (by omega)]; show 0 + k ≤ N0; omega) (by rw [nI_clamp (by omega)]; show 0 + k ≤ k; omega) (fun _ _ => rfl) (Nat.le_of_ble_eq_true rfl) (Nat.le_of_ble_eq_true rfl) dJ7_copyOf_59c91_28 (fun H locs hP hD hS => ?_)
    rw [nI_clamp (show k < 2 ^ 31 by omega)] at hP hD
    have hP : va_P (dC, dI) vwCl [(a0, .inl (cI, N0, .inl f)), (q, .inl (cI, k, .inl (va_cpy f (fun _ => 0) 0 0 k)))] H := hP
    have hD : va_D A [(a0, .inl (cI, N0, .inl f)), (q, .inl (cI, k, .inl (va_cpy f (fun _ => 0) 0 0 k)))] := hD
    refine lv_aload_n hx hb dJ7_copyOf_59c91_31 rfl (lv_at hl 0 rfl) ?_
    exact W.aret (v := .ref q) hx hb hr (Or.inr ⟨_, rfl⟩) (Or.inr ⟨_, rfl⟩) (fun t ht hW => ⟨⟨va_cpy f (fun _ => 0) 0 0 k, q, rfl, fun j hj => by rw [pk_cpy_in (by omega) (by omega)]; congr 1; omega, by rw [ht]; exact hP, va_K.moved hW.alike hK, hD⟩, hS.F ht⟩) hS.2.2 dJ7_copyOf_59c91_32
  · have ek : k = N0 := (nI_eq (by omega) (by omega)).mp c1
    subst ek
    refine lv_aload_n hx hb dJ7_copyOf_59c91_6 rfl (lv_at hl 0 rfl) ?_
    refine va_clone (ad := "[I") (x := (k, .inl f)) hx hb (hml.trans hl.1.symm) hown (hts _ gw_410) (hts _ gw_411) (hts _ gw_412) (hts _ gw_413) (hts _ gw_414) hN0 hK hP hD hS hA 0 0 rfl rfl hnm (fun i v hv => va_fit (fun _ _ => rfl) i v hv) (Nat.le_of_ble_eq_true rfl) (Nat.le_of_ble_eq_true rfl) (Nat.le_of_ble_eq_true rfl) (show 0 + k ≤ 400 by omega) dJ7_copyOf_59c91_7 (fun q H hK' hP hD hS => ?_)
    have hP : va_P (dC, dI) vwCl [(a0, .inl (cI, k, .inl f)), (q, .inl (cI, k, .inl f))] H := hP
    have hD : va_D A [(a0, .inl (cI, k, .inl f)), (q, .inl (cI, k, .inl f))] := hD
    refine W.widen (k := 1) (n := 400) (by omega) (show 0 + k ≤ 400 by omega) ?_
    refine va_castA hx hb hown (hts _ gw_415) hP 1 rfl hnm dJ7_copyOf_59c91_10 ?_
    exact W.aret (v := .ref q) hx hb hr (Or.inr ⟨_, rfl⟩) (Or.inr ⟨_, rfl⟩) (fun t ht hW => ⟨⟨f, q, rfl, fun j hj => rfl, by rw [ht]; exact hP, va_K.moved hW.alike hK, hD⟩, hS.F ht⟩) hS.2.2 dJ7_copyOf_59c91_13
