/-! PURE LEVEL 16: a ship's hour -/
def SameG (g g' : GU) : Prop := g'.rows = g.rows ∧ g'.cols = g.cols ∧ g'.size = g.size ∧ g'.hour = g.hour ∧ g'.laid = g.laid ∧ g'.grown = g.grown ∧ g'.melted = g.melted ∧ g'.sea = g.sea ∧ g'.fast = g.fast ∧ g'.level = g.level ∧ g'.ridged = g.ridged ∧ g'.str = g.str ∧ g'.ord = g.ord ∧ g'.cold = g.cold ∧ g'.way = g.way ∧ g'.force = g.force
theorem SameG.rfl' {g : GU} : SameG g g := ⟨rfl, rfl, rfl, rfl, rfl, rfl, rfl, rfl, rfl, rfl, rfl, rfl, rfl, rfl, rfl, rfl⟩
theorem SameG.trans {g g' g'' : GU} (h : SameG g g') (k : SameG g' g'') : SameG g g'' := by
  obtain ⟨h1, h2, h3, h4, h5, h6, h7, h8, h9, h10, h11, h12, h13, h14, h15, h16⟩ := h
  obtain ⟨k1, k2, k3, k4, k5, k6, k7, k8, k9, k10, k11, k12, k13, k14, k15, k16⟩ := k
  exact ⟨k1.trans h1, k2.trans h2, k3.trans h3, k4.trans h4, k5.trans h5, k6.trans h6, k7.trans h7, k8.trans h8, k9.trans h9, k10.trans h10, k11.trans h11, k12.trans h12, k13.trans h13, k14.trans h14, k15.trans h15, k16.trans h16⟩
theorem actG_same {g : GU} {s w : Nat} {n : Int32} : SameG g (g.actG s w n) ∧ (g.actG s w n).line = g.line ∧ (g.actG s w n).done = g.done := by
  unfold GU.actG GU.mvG GU.cutG
  split
  · split <;> exact ⟨⟨rfl, rfl, rfl, rfl, rfl, rfl, rfl, rfl, rfl, rfl, rfl, rfl, rfl, rfl, rfl, rfl⟩, rfl, rfl⟩
  · split
    · split <;> exact ⟨⟨rfl, rfl, rfl, rfl, rfl, rfl, rfl, rfl, rfl, rfl, rfl, rfl, rfl, rfl, rfl, rfl⟩, rfl, rfl⟩
    · split <;> exact ⟨⟨rfl, rfl, rfl, rfl, rfl, rfl, rfl, rfl, rfl, rfl, rfl, rfl, rfl, rfl, rfl, rfl⟩, rfl, rfl⟩
abbrev GU.setL (g : GU) (s : Nat) (v : Int32) : GU := ((g.rows, g.cols, g.size, g.hour, g.laid, g.grown, g.melted, g.sea, g.fast, g.level, g.ridged, g.chan, g.str, g.fuel, g.place, g.told, g.moved, (upd g.line s v), g.done, g.ord, g.cold, g.way, g.force) : GU)
abbrev GU.setD (g : GU) (s : Nat) (v : Int32) : GU := ((g.rows, g.cols, g.size, g.hour, g.laid, g.grown, g.melted, g.sea, g.fast, g.level, g.ridged, g.chan, g.str, g.fuel, g.place, g.told, g.moved, g.line, (upd g.done s v), g.ord, g.cold, g.way, g.force) : GU)
def GU.doL (g : GU) (s : Nat) (r : OR) (k : Nat) : GU := (((g.setL s (nI k)).actG s (oA r k).toNatClampNeg (oM r k)).setD s ((g.setL s (nI k)).actR s (oA r k).toNatClampNeg))
def cmdL (g : GU) (s : Nat) (r : OR) : Nat → Nat → GU
  | 0, _ => g
  | m + 1, k => if g.holds s r k = true then g.doL s r k else cmdL g s r m (k + 1)
def GU.cmd (om : Nat → Option OR) (g : GU) (s : Nat) : GU := match g.ord s with
  | none => (g.setL s (-1)).setD s 0
  | some a => match om a with
    | none => (g.setL s (-1)).setD s 0
    | some r => cmdL ((g.setL s (-1)).setD s 0) s r (oL r) 0
theorem doL_same {g : GU} {s k : Nat} {r : OR} : SameG g (g.doL s r k) := by
  have h := (actG_same (g := g.setL s (nI k)) (s := s) (w := (oA r k).toNatClampNeg) (n := oM r k)).1
  exact (show SameG g (g.setL s (nI k)) from SameG.rfl').trans (h.trans (show SameG _ (GU.setD _ s _) from SameG.rfl'))
theorem cmdL_same {g : GU} {s : Nat} {r : OR} : ∀ m k, SameG g (cmdL g s r m k) := by
  intro m
  induction m with
  | zero => intro k; exact SameG.rfl'
  | succ m ih =>
    intro k
    unfold cmdL
    split
    · exact doL_same
    · exact ih (k + 1)
theorem cmd_same {om : Nat → Option OR} {g : GU} {s : Nat} : SameG g (g.cmd om s) := by
  unfold GU.cmd
  split
  · exact SameG.rfl'
  · split
    · exact SameG.rfl'
    · exact (show SameG g ((g.setL s (-1)).setD s 0) from SameG.rfl').trans (cmdL_same _ _)
theorem Wf.setL {g : GU} (W : Wf g) {s : Nat} {v : Int32} : Wf (g.setL s v) := (Wf.mk' (k_r1 := W.r1) (k_r8 := W.r8) (k_c1 := W.c1) (k_c8 := W.c8) (k_s8 := W.s8) (k_h1 := W.h1) (k_sea := W.sea) (k_fast := W.fast) (k_out := W.out) (k_chan := W.chan) (k_place := W.place) (k_dist := W.dist) (k_str := W.str) (k_done := W.done) (k_way := W.way) (k_force := W.force))
theorem Wf.setD {g : GU} (W : Wf g) {s : Nat} {v : Int32} (hv : v = 0 ∨ v = 1) : Wf (g.setD s v) := (Wf.mk'
    (k_r1 := W.r1)
    (k_r8 := W.r8)
    (k_c1 := W.c1)
    (k_c8 := W.c8)
    (k_s8 := W.s8)
    (k_h1 := W.h1)
    (k_sea := W.sea)
    (k_fast := W.fast)
    (k_out := W.out)
    (k_chan := W.chan)
    (k_place := W.place)
    (k_dist := W.dist)
    (k_str := W.str)
    (k_done := fun t ht => by
      show upd g.done s v t = 0 ∨ upd g.done s v t = 1
      by_cases e : t = s
      · subst e; rw [pk_us]; exact hv
      · rw [pk_un e]; exact W.done t ht)
    (k_way := W.way)
    (k_force := W.force))
theorem actR_01 {g : GU} {s w : Nat} : g.actR s w = 0 ∨ g.actR s w = 1 := by
  unfold GU.actR bI
  split
  · split
    · exact Or.inr rfl
    · exact Or.inl rfl
  · split
    · split
      · exact Or.inr rfl
      · exact Or.inl rfl
    · exact Or.inr rfl
theorem c_command_loop {Q : (Nat → Int32) → (Nat → Int32) → (Nat → Int32) → (Nat → Int32) → (Nat → Int32) → (Nat → Int32) → (Nat → Int32) → Prop} {om : Nat → Option OR} {g : GU} (W : Wf g) {s : Nat} {r : OR} {ln ac : Nat → Int32} (T : TxR r ln ac) (hs : s < g.size) : ∀ (m k : Nat), k + m = oL r → (∀ g', g' = cmdL g s r m k → Q g'.done g'.fuel g'.line g'.moved g'.place g'.told g'.chan) → wX2_command_37 Q om (m + 1) (nI s) r (nI k) (nI g.hour) (nI g.size) (nI g.rows) (nI g.cols) g.done g.fuel g.line g.moved g.ord g.place g.str g.told g.chan g.level g.ridged g.sea := by
  have h8 := W.s8
  have hl := T.ok.l
  have vs := vp_in_nI (show s < 8 by omega) (by omega)
  intro m
  induction m with
  | zero =>
    intro k hk h
    exact ip_T (nI_le (a := oL r) (b := k) (by omega) (by omega)) (h _ rfl)
  | succ m ih =>
    intro k hk h
    refine ip_F (nI_ge (a := k) (b := oL r) (by omega) (by omega)) (c_holds W T hs (by omega) ?_)
    unfold cmdL at h
    cases c : g.holds s r k
    · rw [if_neg (by rw [c]; decide)] at h
      rw [nI_1]
      exact ip_T rfl (ih (k + 1) (by omega) h)
    · rw [if_pos c] at h
      have vk := vp_in_nI (show k < oL r by omega) (by omega)
      refine ip_F (by decide) ⟨vs, vk, vk, ?_⟩
      rw [nI_clamp (by omega), nI_clamp (by omega)]
      obtain ⟨w, hw, ew, -⟩ := T.act k (by omega)
      have hx := h _ rfl
      unfold GU.doL at hx
      rw [ew] at hx ⊢
      rw [nI_clamp (by omega)] at hx
      refine c_act (g := g.setL s (nI k)) W.setL hs hw ⟨vs, ?_⟩
      rw [ip_nb actR_01]
      have e1 : (GU.setD ((g.setL s (nI k)).actG s w (oM r k)) s ((g.setL s (nI k)).actR s w)).done = upd g.done s ((g.setL s (nI k)).actR s w) := by
        show upd ((g.setL s (nI k)).actG s w (oM r k)).done s _ = _
        rw [actG_same.2.2]
      have e2 : (GU.setD ((g.setL s (nI k)).actG s w (oM r k)) s ((g.setL s (nI k)).actR s w)).line = upd g.line s (nI k) := by
        show ((g.setL s (nI k)).actG s w (oM r k)).line = _
        rw [actG_same.2.1]
      rw [e1, e2] at hx
      exact hx
theorem c_command {Q : (Nat → Int32) → (Nat → Int32) → (Nat → Int32) → (Nat → Int32) → (Nat → Int32) → (Nat → Int32) → (Nat → Int32) → Prop} {om : Nat → Option OR} {g : GU} (W : Wf g) {s : Nat} {n : Int32} {ln ac : Nat → Int32} (o : OrdR om (g.ord s) n ln ac) (hs : s < g.size) (h : Q (g.cmd om s).done (g.cmd om s).fuel (g.cmd om s).line (g.cmd om s).moved (g.cmd om s).place (g.cmd om s).told (g.cmd om s).chan) : wX2_command Q om (nI s) (nI g.hour) (nI g.size) (nI g.rows) (nI g.cols) g.done g.fuel g.line g.moved g.ord g.place g.str g.told g.chan g.level g.ridged g.sea := by
  have h8 := W.s8
  have vs := vp_in_nI (show s < 8 by omega) (by omega)
  unfold wX2_command
  rw [nI_clamp (by omega), ip_nb (Or.inl rfl)]
  refine ⟨vs, vs, vs, fun e => ?_, fun a e => ?_⟩
  · unfold GU.cmd at h
    rw [e] at h
    exact h
  · unfold OrdR at o
    rw [e] at o
    obtain ⟨r, er, -, T⟩ := o
    unfold GU.cmd at h
    rw [e] at h
    simp only [er] at h
    refine ⟨r, er, oL r + 1, ?_⟩
    exact c_command_loop (g := (g.setL s (-1)).setD s 0) (W.setL.setD (Or.inl rfl)) T hs (oL r) 0 (by omega) (fun g' eg => by subst eg; exact h)
theorem m_command_loop {Q : (Nat → Int32) → (Nat → Int32) → Prop} {om : Nat → Option OR} {all : Nat → Int32} {g : GU} (W : Wf g) (R : Rg om all g) {s a : Nat} {r : OR} (ea : g.ord s = some a) (er : om a = some r) (hs : s < g.size) : ∀ (m k : Nat) (pile : Nat → Int32), k + m = oL r → (∀ all' pile', OkG om all (cmdL g s r m k) all' → Q all' pile') → wX11_obeys_18 Q (m + 1) (nI s) (nI k) all pile := by
  have h8 := W.s8
  have o := R.ord s hs
  unfold OrdR at o
  rw [ea] at o
  obtain ⟨r', er', en, T⟩ := o
  have rr : r' = r := by rw [er] at er'; exact (Option.some.inj er').symm
  subst rr
  have hl := T.ok.l
  intro m
  induction m with
  | zero =>
    intro k pile hk h
    refine ip_its s 8 (by omega) (by omega) ?_
    rw [en]
    exact ip_T (nI_le (by omega) (by omega)) (h all pile (OkG.same W R))
  | succ m ih =>
    intro k pile hk h
    refine ip_its s 8 (by omega) (by omega) ?_
    rw [en]
    refine ip_F (nI_ge (by omega) (by omega)) (m_holds W R T hs (by omega) (fun pile' => ?_))
    unfold cmdL at h
    cases c : g.holds s r' k
    · rw [if_neg (by rw [c]; decide)] at h
      rw [nI_1]
      exact ip_T' rfl (ih (k + 1) pile' (by omega) h)
    · rw [if_pos c] at h
      refine ip_F' (by decide) (ip_ships s 6 (by omega) (by omega) ?_)
      rw [lnA s k 2 2 rfl, lnA s k 3 3 rfl, nI_clamp (by omega), nI_clamp (by omega), pk_un (by omega), pk_un (by omega)]
      obtain ⟨w, hw, ew, el⟩ := T.act k (by omega)
      have en : all (3460 + 80 * s + (4 * k + 3)) = oM r' k := T.num k (by omega)
      have el : all (3460 + 80 * s + (4 * k + 2)) = nI (wordR w) := el
      rw [el, en]
      have R1 : Rg om (upd all (360 + 12 * s + 6) (nI k)) (g.setL s (nI k)) := R.setLine s (nI k) h8 (by omega)
      refine ⟨vp_in_nI (by omega) (by omega), vp_in_nI (by omega) (by omega), m_act (g := g.setL s (nI k)) W.setL R1 hs hw (fun all' ok => ?_)⟩
      unfold GU.doL at h
      rw [ew, nI_clamp (by omega)] at h
      have s8 : ((g.setL s (nI k)).actG s w (oM r' k)).size ≤ 8 := ok.1.s8
      have fin : wX11_obeys_104 Q (nI s) 7 ((g.setL s (nI k)).actR s w) all' pile' := by
        refine ip_ships s 7 (by omega) (by omega) (h _ pile' ⟨ok.1.setD actR_01, ok.2.1.setDone s _ s8 (by omega), fun i hi => ?_⟩)
        rw [pk_un (by omega), ok.2.2 i hi, pk_un (by omega)]
      rcases actR_01 (g := g.setL s (nI k)) (s := s) (w := w) with z | z
      · rw [z] at fin ⊢; exact ip_T rfl fin
      · rw [z] at fin ⊢; exact ip_F (by decide) fin
theorem m_command {Q : (Nat → Int32) → (Nat → Int32) → Prop} {om : Nat → Option OR} {all pile : Nat → Int32} {g : GU} (W : Wf g) (R : Rg om all g) {s : Nat} (hs : s < g.size) (h : ∀ all' pile', OkG om all (g.cmd om s) all' → Q all' pile') : wX11_obeys Q (nI s) all pile := by
  have h8 := W.s8
  have o := R.ord s hs
  unfold wX11_obeys
  refine ip_ships s 6 (by omega) (by omega) (ip_ships s 7 (by omega) (by omega) ?_)
  have R1 : Rg om (upd (upd all (360 + 12 * s + 6) (-1)) (360 + 12 * s + 7) 0) ((g.setL s (-1)).setD s 0) := Rg.setDone (g := g.setL s (-1)) (R.setLine s (-1) h8 (by omega)) s 0 h8 (by omega)
  have W1 : Wf ((g.setL s (-1)).setD s 0) := W.setL.setD (Or.inl rfl)
  have un : ∀ i, (7 ≤ i ∧ i < 40 ∨ 10340 ≤ i) → upd (upd all (360 + 12 * s + 6) (-1)) (360 + 12 * s + 7) 0 i = all i := fun i hi => by rw [pk_un (by omega), pk_un (by omega)]
  have h' : ∀ all' pile', OkG om (upd (upd all (360 + 12 * s + 6) (-1)) (360 + 12 * s + 7) 0) (g.cmd om s) all' → Q all' pile' := fun all' pile' ok => h all' pile' ⟨ok.1, ok.2.1, fun i hi => (ok.2.2 i hi).trans (un i hi)⟩
  cases e : g.ord s with
  | none =>
    unfold GU.cmd at h'
    rw [e] at h'
    refine ⟨1, ip_its s 8 (by omega) (by omega) ?_⟩
    have e8 : upd (upd all (360 + 12 * s + 6) (-1)) (360 + 12 * s + 7) 0 (360 + 12 * s + 8) = 0 := by
      rw [pk_un (by omega), pk_un (by omega)]
      unfold OrdR at o
      rw [e] at o
      exact o
    rw [e8]
    exact ip_T (by decide) (h' _ pile (OkG.same W1 R1))
  | some a =>
    unfold OrdR at o
    rw [e] at o
    obtain ⟨r, er, -, T⟩ := o
    unfold GU.cmd at h'
    rw [e] at h'
    simp only [er] at h'
    exact ⟨oL r + 1, m_command_loop W1 R1 e er hs (oL r) 0 pile (by omega) h'⟩
