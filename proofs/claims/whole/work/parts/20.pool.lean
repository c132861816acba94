/-! a text of orders that was read: how many steps, how many lines, the steps, ends, acts and numbers; the pool of them behind a world -/
abbrev OR : Type := Nat × Nat × (Nat → Int32) × (Nat → Int32) × (Nat → Int32) × (Nat → Int32)
def oN (r : OR) : Nat := r.1
def oL (r : OR) : Nat := r.2.1
def oS (r : OR) : Nat → Int32 := r.2.2.1
def oE (r : OR) : Nat → Int32 := r.2.2.2.1
def oA (r : OR) : Nat → Int32 := r.2.2.2.2.1
def oM (r : OR) : Nat → Int32 := r.2.2.2.2.2
def OrdAt (cI : ClassId) (PL : va_W) (a : Nat) (r : OR) : Prop := ∃ b1 b2 b3 b4 k0 k1 k2 k3 k4 : Nat, PL[k0]? = some (a, .inr (4, [.ref b1, .ref b2, .ref b3, .ref b4])) ∧ PL[k1]? = some (b1, .inl (cI, oN r, .inl (oS r))) ∧ PL[k2]? = some (b2, .inl (cI, oL r, .inl (oE r))) ∧ PL[k3]? = some (b3, .inl (cI, oL r, .inl (oA r))) ∧ PL[k4]? = some (b4, .inl (cI, oL r, .inl (oM r)))
theorem pl_at {X PL : va_W} {k : Nat} {q : Nat × va_E} (h : PL[k]? = some q) : (X ++ PL)[X.length + k]? = some q := by
  rw [List.getElem?_append_right (by omega)]
  rw [Nat.add_sub_cancel_left]
  exact h
theorem af_joinQ {A0 : Nat → Prop} {D : va_G} {cl : List vw_C} {tys : List (ClassId × FieldType)} {X cx wr w1 pl : va_W} {H H1 : Heap} {t : State} (hB : va_P D cl w1 t.heap ∧ va_K D cl tys t ∧ va_D (va_A cx H.size) w1) (ht : t.heap = H1) (hP : va_P D cl (X ++ pl) H) (hD : va_D A0 (X ++ pl)) (isC isR : List Nat) (hC : isC.map (fun i => X[i]?) = cx.map some) (hR : isR.map (fun i => X[i]?) = wr.map some) (hn : va_nd isR = true) (hdis : ∀ i ∈ isR, i ∉ isC)
    (hk : ∀ q : Nat, q < H.size → ¬ va_A cx H.size q → H1[q]? = H[q]?) (hF : ∀ q, va_A cx H.size q → A0 q) : va_P D cl ((wr ++ w1) ++ pl) H1 ∧ va_D A0 ((wr ++ w1) ++ pl) := by
  obtain ⟨hP1, -, hD1⟩ := hB
  rw [ht] at hP1
  exact va_joinQ hP hD isC isR hC hR hn hdis hk hF hP1 hD1
theorem af_joinP {A0 : Nat → Prop} {D : va_G} {cl : List vw_C} {tys : List (ClassId × FieldType)} {X cx wr rx pl : va_W} {H H1 : Heap} {t : State} (hB : va_P D cl (rx ++ pl) t.heap ∧ va_K D cl tys t ∧ va_D (va_A (cx ++ pl) H.size) (rx ++ pl)) (ht : t.heap = H1) (hP : va_P D cl (X ++ pl) H) (hD : va_D A0 (X ++ pl)) (isC isR : List Nat) (hC : isC.map (fun i => X[i]?) = cx.map some) (hR : isR.map (fun i => X[i]?) = wr.map some) (hn : va_nd isR = true) (hdis : ∀ i ∈ isR, i ∉ isC)
    (hk : ∀ q : Nat, q < H.size → ¬ va_A (cx ++ pl) H.size q → H1[q]? = H[q]?) (hF : ∀ q, va_A (cx ++ pl) H.size q → A0 q) : va_P D cl ((wr ++ rx) ++ pl) H1 ∧ va_D A0 ((wr ++ rx) ++ pl) := by
  obtain ⟨hP1, -, hD1⟩ := hB
  rw [ht] at hP1
  exact va_joinP hP hD isC isR hC hR hn hdis hk hF hP1 hD1
