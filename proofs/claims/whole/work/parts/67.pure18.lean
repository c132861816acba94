/-! PURE LEVEL 17: growth and melting -/
def SameF (g g' : GU) : Prop := g'.rows = g.rows ∧ g'.cols = g.cols ∧ g'.size = g.size ∧ g'.hour = g.hour ∧ g'.laid = g.laid ∧ g'.sea = g.sea ∧ g'.fast = g.fast ∧ g'.chan = g.chan ∧ g'.str = g.str ∧ g'.fuel = g.fuel ∧ g'.place = g.place ∧ g'.told = g.told ∧ g'.moved = g.moved ∧ g'.line = g.line ∧ g'.done = g.done ∧ g'.ord = g.ord ∧ g'.cold = g.cold ∧ g'.way = g.way ∧ g'.force = g.force
theorem SameF.rfl' {g : GU} : SameF g g := ⟨rfl, rfl, rfl, rfl, rfl, rfl, rfl, rfl, rfl, rfl, rfl, rfl, rfl, rfl, rfl, rfl, rfl, rfl, rfl⟩
theorem SameF.trans {g g' g'' : GU} (h : SameF g g') (k : SameF g' g'') : SameF g g'' := by
  obtain ⟨h1, h2, h3, h4, h5, h6, h7, h8, h9, h10, h11, h12, h13, h14, h15, h16, h17, h18, h19⟩ := h
  obtain ⟨k1, k2, k3, k4, k5, k6, k7, k8, k9, k10, k11, k12, k13, k14, k15, k16, k17, k18, k19⟩ := k
  exact ⟨k1.trans h1, k2.trans h2, k3.trans h3, k4.trans h4, k5.trans h5, k6.trans h6, k7.trans h7, k8.trans h8, k9.trans h9, k10.trans h10, k11.trans h11, k12.trans h12, k13.trans h13, k14.trans h14, k15.trans h15, k16.trans h16, k17.trans h17, k18.trans h18, k19.trans h19⟩
def GU.frz (g : GU) (cold : Int32) (k : Nat) : GU :=
  if g.sea k = 0 then g
  else if ¬ cold ≤ 0 then ((g.rows, g.cols, g.size, g.hour, g.laid, (g.grown + (100 - g.level k) * cold / 400), g.melted, g.sea, g.fast, (upd g.level k (g.level k + (100 - g.level k) * cold / 400)), g.ridged, g.chan, g.str, g.fuel, g.place, g.told, g.moved, g.line, g.done, g.ord, g.cold, g.way, g.force) : GU)
  else if 0 ≤ cold then g
  else ((g.rows, g.cols, g.size, g.hour, g.laid, g.grown, (g.melted + (g.level k * (-cold) / 400 + g.ridged k * (-cold) / 800)), g.sea, g.fast, (upd g.level k (g.level k - g.level k * (-cold) / 400)), (upd g.ridged k (g.ridged k - g.ridged k * (-cold) / 800)), g.chan, g.str, g.fuel, g.place, g.told, g.moved, g.line, g.done, g.ord, g.cold, g.way, g.force) : GU)
def frzN (g : GU) (cold : Int32) : Nat → GU
  | 0 => g
  | m + 1 => (frzN g cold m).frz cold m
theorem frz_same {g : GU} {cold : Int32} {k : Nat} : SameF g (g.frz cold k) := by
  unfold GU.frz
  split
  · exact SameF.rfl'
  · split
    · exact SameF.rfl'
    · split <;> exact SameF.rfl'
theorem frzN_same {g : GU} {cold : Int32} : ∀ m, SameF g (frzN g cold m) := by
  intro m
  induction m with
  | zero => exact SameF.rfl'
  | succ m ih => exact ih.trans frz_same
theorem frzN_sea {g : GU} {cold : Int32} (m : Nat) : (frzN g cold m).sea = g.sea := (frzN_same m).2.2.2.2.2.1
theorem frzN_skip {g : GU} {cold : Int32} (a : Nat) : ∀ m, (∀ k, a ≤ k → k < a + m → g.sea k = 0) → frzN g cold (a + m) = frzN g cold a := by
  intro m
  induction m with
  | zero => intro _; rfl
  | succ m ih =>
    intro h
    show (frzN g cold (a + m)).frz cold (a + m) = _
    unfold GU.frz
    rw [if_pos (by rw [frzN_sea]; exact h (a + m) (by omega) (by omega))]
    exact ih (fun k h1 h2 => h k h1 (by omega))
theorem frzN_zero {g : GU} : ∀ m, frzN g 0 m = g := by
  intro m
  induction m with
  | zero => rfl
  | succ m ih =>
    show (frzN g 0 m).frz 0 m = g
    rw [ih]
    unfold GU.frz
    split
    · rfl
    · rw [if_neg (by decide), if_pos (by decide)]
theorem Wf.frz {g : GU} (W : Wf g) {cold : Int32} {k : Nat} (hk : k < 64) : Wf (g.frz cold k) := by
  by_cases hs : g.sea k = 0
  · unfold GU.frz; rw [if_pos hs]; exact W
  · have hi : g.ins k := Decidable.byContradiction (fun n => hs (W.out k hk n).1)
    unfold GU.frz
    rw [if_neg hs]
    split
    · exact (Wf.mk'
        (k_r1 := W.r1)
        (k_r8 := W.r8)
        (k_c1 := W.c1)
        (k_c8 := W.c8)
        (k_s8 := W.s8)
        (k_h1 := W.h1)
        (k_sea := W.sea)
        (k_fast := W.fast)
        (k_out := fun j hj ho => by
          have e : j ≠ k := fun e => ho (by subst e; exact hi)
          have := W.out j hj ho
          show g.sea j = 0 ∧ upd g.level k _ j = 0 ∧ g.ridged j = 0 ∧ g.chan j = -1
          rw [pk_un e]; exact this)
        (k_chan := W.chan)
        (k_place := W.place)
        (k_dist := W.dist)
        (k_str := W.str)
        (k_done := W.done)
        (k_way := W.way)
        (k_force := W.force))
    · split
      · exact W
      · exact (Wf.mk'
          (k_r1 := W.r1)
          (k_r8 := W.r8)
          (k_c1 := W.c1)
          (k_c8 := W.c8)
          (k_s8 := W.s8)
          (k_h1 := W.h1)
          (k_sea := W.sea)
          (k_fast := W.fast)
          (k_out := fun j hj ho => by
            have e : j ≠ k := fun e => ho (by subst e; exact hi)
            have := W.out j hj ho
            show g.sea j = 0 ∧ upd g.level k _ j = 0 ∧ upd g.ridged k _ j = 0 ∧ g.chan j = -1
            rw [pk_un e, pk_un e]; exact this)
          (k_chan := W.chan)
          (k_place := W.place)
          (k_dist := W.dist)
          (k_str := W.str)
          (k_done := W.done)
          (k_way := W.way)
          (k_force := W.force))
theorem Wf.frzN {g : GU} (W : Wf g) {cold : Int32} : ∀ m, m ≤ 64 → Wf (frzN g cold m) := by
  intro m
  induction m with
  | zero => intro _; exact W
  | succ m ih => intro h; exact (ih (by omega)).frz (by omega)
theorem r8I {R : Nat} : nI R * (8 : Int32) = nI (8 * R) := by rw [show (8 : Int32) = nI 8 from rfl, pk_mul, Nat.mul_comm]
theorem c_grow {Q : Int32 → (Nat → Int32) → Prop} {g : GU} (W : Wf g) {cold : Int32} (hc : ¬ cold ≤ 0) (h : Q (frzN g cold (8 * g.rows)).grown (frzN g cold (8 * g.rows)).level) : wX3_grow Q cold (nI g.rows) g.grown g.level g.sea := by
  have hr := W.r8
  refine ⟨8 * g.rows + 1, ?_⟩
  have lp : ∀ (m i : Nat), i + m = 8 * g.rows → wX3_grow_2 Q (m + 1) cold (nI i) (nI g.rows) (frzN g cold i).grown (frzN g cold i).level g.sea := by
    intro m
    induction m with
    | zero =>
      intro i hi
      have e : i = 8 * g.rows := by omega
      subst e
      refine ip_T ?_ h
      rw [r8I]; exact nI_le (Nat.le_refl _) (by omega)
    | succ m ih =>
      intro i hi
      have v := vp_in_nI (show i < 64 by omega) (by omega)
      refine ip_F (by rw [r8I]; exact nI_ge (by omega) (by omega)) ⟨v, ?_⟩
      rw [nI_clamp (by omega)]
      have ih := ih (i + 1) (by omega)
      have ef : frzN g cold (i + 1) = (frzN g cold i).frz cold i := rfl
      rw [ef] at ih
      unfold GU.frz at ih
      rw [frzN_sea] at ih
      unfold wX3_grow_58
      rw [nI_1]
      refine ip_split (fun c => ?_) (fun c => ⟨v, v, v, ?_⟩)
      · rw [if_pos c] at ih; exact ih
      · rw [if_neg c, if_pos hc] at ih; exact ih
  exact lp (8 * g.rows) 0 (by omega)
theorem c_melt {Q : Int32 → (Nat → Int32) → (Nat → Int32) → Prop} {g : GU} (W : Wf g) {cold : Int32} (hc : cold ≤ 0) (hc2 : ¬ 0 ≤ cold) (h : Q (frzN g cold (8 * g.rows)).melted (frzN g cold (8 * g.rows)).level (frzN g cold (8 * g.rows)).ridged) : wX3_melt Q (-cold) (nI g.rows) g.melted g.level g.ridged g.sea := by
  have hr := W.r8
  refine ⟨8 * g.rows + 1, ?_⟩
  have lp : ∀ (m i : Nat), i + m = 8 * g.rows → wX3_melt_2 Q (m + 1) (-cold) (nI i) (nI g.rows) (frzN g cold i).melted (frzN g cold i).level (frzN g cold i).ridged g.sea := by
    intro m
    induction m with
    | zero =>
      intro i hi
      have e : i = 8 * g.rows := by omega
      subst e
      refine ip_T ?_ h
      rw [r8I]; exact nI_le (Nat.le_refl _) (by omega)
    | succ m ih =>
      intro i hi
      have v := vp_in_nI (show i < 64 by omega) (by omega)
      refine ip_F (by rw [r8I]; exact nI_ge (by omega) (by omega)) ⟨v, ?_⟩
      rw [nI_clamp (by omega)]
      have ih := ih (i + 1) (by omega)
      have ef : frzN g cold (i + 1) = (frzN g cold i).frz cold i := rfl
      rw [ef] at ih
      unfold GU.frz at ih
      rw [frzN_sea] at ih
      unfold wX3_melt_83
      rw [nI_1]
      refine ip_split (fun c => ?_) (fun c => ⟨v, v, v, v, v, v, ?_⟩)
      · rw [if_pos c] at ih; exact ih
      · rw [if_neg c, if_neg (fun q => q hc), if_neg hc2] at ih; exact ih
  exact lp (8 * g.rows) 0 (by omega)
theorem m_freezes {om : Nat → Option OR} {Q : (Nat → Int32) → Prop} {all : Nat → Int32} {g : GU} (W : Wf g) (R : Rg om all g) {cold : Int32} {a b : Nat} (ha : a < 8) (hb : b < 8) (hs : ¬ g.sea (8 * a + b) = 0) (h : ∀ all', OkG om all (g.frz cold (8 * a + b)) all' → Q all') : wX11_freezes Q (nI a) (nI b) cold all := by
  have hk : 8 * a + b < 64 := by omega
  have s8 := W.s8
  have W' : Wf (g.frz cold (8 * a + b)) := W.frz hk
  unfold GU.frz at h W'
  rw [if_neg hs] at h W'
  unfold wX11_freezes
  refine ip_of a b 1 ha hb (by omega) ?_
  rw [R.level _ hk]
  refine ip_split (fun c => ip_split (fun d => ?_) (fun d => ?_)) (fun c => ?_)
  · rw [if_neg (fun q => q c), if_pos d] at h
    exact h all (OkG.same W R)
  · rw [if_neg (fun q => q c), if_neg d] at h W'
    refine ip_of a b 2 ha hb (by omega) (ip_sets a b 1 ha hb (by omega) (ip_of a b 2 ha hb (by omega) (ip_sets a b 2 ha hb (by omega) ?_)))
    rw [R.ridged _ hk, pk_un (by omega), R.ridged _ hk]
    have R1 := (R.setLevel (8 * a + b) (g.level (8 * a + b) - g.level (8 * a + b) * (-cold) / 400) hk).setRidged (8 * a + b) (g.ridged (8 * a + b) - g.ridged (8 * a + b) * (-cold) / 800) hk
    have R2 := R1.setMelted (g.melted + (g.level (8 * a + b) * (-cold) / 400 + g.ridged (8 * a + b) * (-cold) / 800)) s8
    rw [show (6 : Int32).toNatClampNeg = 6 from rfl, pk_un (by omega), pk_un (by omega), R.melted]
    exact ⟨ip_in 6 _ rfl (by omega) (by omega), ip_in 6 _ rfl (by omega) (by omega), h _ ⟨W', R2, fun i hi => by rw [pk_un (by omega), pk_un (by omega), pk_un (by omega)]⟩⟩
  · rw [if_pos c] at h W'
    refine ip_sets a b 1 ha hb (by omega) ?_
    have R1 := R.setLevel (8 * a + b) (g.level (8 * a + b) + (100 - g.level (8 * a + b)) * cold / 400) hk
    have R2 := R1.setGrown (g.grown + (100 - g.level (8 * a + b)) * cold / 400) s8
    rw [show (5 : Int32).toNatClampNeg = 5 from rfl, pk_un (by omega), R.grown]
    exact ⟨ip_in 5 _ rfl (by omega) (by omega), ip_in 5 _ rfl (by omega) (by omega), h _ ⟨W', R2, fun i hi => by rw [pk_un (by omega), pk_un (by omega)]⟩⟩
theorem m_frz_in {om : Nat → Option OR} {Q : (Nat → Int32) → (Nat → Int32) → (Nat → Int32) → (Nat → Int32) → Prop} {Kf : Int32 → Int32 → Int32 → (Nat → Int32) → (Nat → Int32) → (Nat → Int32) → (Nat → Int32) → Prop} {all co le pi : Nat → Int32} {g : GU} (W : Wf g) {x1 cold : Int32} {a : Nat} (ha : a < g.rows) (h : ∀ all', OkG om all (frzN g cold (8 * a + g.cols)) all' → Kf x1 cold (nI (a + 1)) all' co le pi) : ∀ (m i : Nat), i + m = g.cols → ∀ all1, OkG om all (frzN g cold (8 * a + i)) all1 → wX11_anHour_58 Q Kf (m + 1) x1 cold (nI a) (nI i) all1 co le pi := by
  have hc := W.c8
  have hr := W.r8
  have v1 := ip_in (x := 1) 1 53700 rfl (by omega) (by omega)
  intro m
  induction m with
  | zero =>
    intro i hi all1 ok
    have e : i = g.cols := by omega
    subst e
    refine ⟨v1, ip_T ?_ (by rw [nI_1]; exact h all1 ok)⟩
    rw [show (1 : Int32).toNatClampNeg = 1 from rfl, ok.2.1.cols, (frzN_same _).2.1]
    exact nI_le (Nat.le_refl _) (by omega)
  | succ m ih =>
    intro i hi all1 ok
    refine ⟨v1, ip_F ?_ (ip_isSea ok.1 ok.2.1 _ _ ?_)⟩
    · rw [show (1 : Int32).toNatClampNeg = 1 from rfl, ok.2.1.cols, (frzN_same _).2.1]
      exact nI_ge (by omega) (by omega)
    · have ff : (frzN g cold (8 * a + i)).find (nI a) (nI i) = nI (8 * a + i) := find_of ok.1 (by rw [(frzN_same _).1]; exact ha) (by rw [(frzN_same _).2.1]; omega)
      have ih := ih (i + 1) (by omega)
      have ef : frzN g cold (8 * a + (i + 1)) = (frzN g cold (8 * a + i)).frz cold (8 * a + i) := rfl
      rw [ff, nI_clamp (by omega)]
      unfold wX11_anHour_87
      rw [nI_1]
      rcases ok.1.sea (8 * a + i) (by omega) with s0 | s1
      · rw [bI_F (fun q => by rw [s0] at q; exact absurd q.2 (by decide))]
        refine ip_T rfl (ih all1 ?_)
        rw [ef]; unfold GU.frz; rw [if_pos s0]; exact ok
      · rw [bI_T ⟨nI_m1 (by omega), s1⟩]
        exact ip_F (by decide) (m_freezes ok.1 ok.2.1 (by omega) (by omega) (by rw [s1]; decide) (fun all' ok' => ih all' (by rw [ef]; exact ok.trans ok')))
theorem m_frz {om : Nat → Option OR} {Q : (Nat → Int32) → (Nat → Int32) → (Nat → Int32) → (Nat → Int32) → Prop} {all co le pi : Nat → Int32} {g : GU} (W : Wf g) {x1 cold : Int32} (h : ∀ all' m, OkG om all (frzN g cold (8 * g.rows)) all' → wX11_anHour_45 Q (m + 1) x1 cold (nI g.rows) all' co le pi) : ∀ (m i : Nat), i + m = g.rows → ∀ all1, OkG om all (frzN g cold (8 * i)) all1 → wX11_anHour_45 Q (m + 1) x1 cold (nI i) all1 co le pi := by
  have hc := W.c8
  have hr := W.r8
  have v0 := ip_in (x := 0) 0 53700 rfl (by omega) (by omega)
  intro m
  induction m with
  | zero =>
    intro i hi all1 ok
    have e : i = g.rows := by omega
    subst e
    exact h all1 0 ok
  | succ m ih =>
    intro i hi all1 ok
    refine ⟨v0, ip_F ?_ ⟨g.cols + 1, ?_⟩⟩
    · rw [show (0 : Int32).toNatClampNeg = 0 from rfl, ok.2.1.rows, (frzN_same _).1]
      exact nI_ge (by omega) (by omega)
    · refine m_frz_in W (by omega) (fun all' ok' => ?_) g.cols 0 (by omega) all1 ok
      refine ih (i + 1) (by omega) all' ?_
      have e : frzN g cold (8 * (i + 1)) = frzN g cold (8 * i + g.cols) := by
        have := frzN_skip (g := g) (cold := cold) (8 * i + g.cols) (8 - g.cols) (fun k h1 h2 => (W.out k (by omega) (fun q => by have := q.2; omega)).1)
        rw [show 8 * i + g.cols + (8 - g.cols) = 8 * (i + 1) by omega] at this
        exact this
      rw [e]; exact ok'
