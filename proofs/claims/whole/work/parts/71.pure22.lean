/-! PURE LEVEL 21: an hour of the class -/
theorem Wf.cutG {g : GU} (W : Wf g) {s : Nat} (hs : s < g.size) : Wf (g.cutG s) := by
  obtain ⟨es, hp, hi⟩ := W.place s hs
  unfold GU.cutG
  split
  · exact (Wf.mk'
      (k_r1 := W.r1)
      (k_r8 := W.r8)
      (k_c1 := W.c1)
      (k_c8 := W.c8)
      (k_s8 := W.s8)
      (k_h1 := W.h1)
      (k_sea := W.sea)
      (k_fast := W.fast)
      (k_out := fun k hk ho => by
        have ne : k ≠ g.pl s := fun q => ho (by rw [q]; exact hi)
        show g.sea k = 0 ∧ g.level k = 0 ∧ g.ridged k = 0 ∧ upd g.chan (g.pl s) (nI g.hour) k = -1
        rw [pk_un ne]
        exact W.out k hk ho)
      (k_chan := fun k hk => by
        show upd g.chan (g.pl s) (nI g.hour) k = -1 ∨ ∃ t : Nat, t ≤ 1000 ∧ upd g.chan (g.pl s) (nI g.hour) k = nI t
        by_cases q : k = g.pl s
        · subst q; rw [pk_us]; exact Or.inr ⟨g.hour, W.h1, rfl⟩
        · rw [pk_un q]; exact W.chan k hk)
      (k_place := W.place)
      (k_dist := W.dist)
      (k_str := W.str)
      (k_done := W.done)
      (k_way := W.way)
      (k_force := W.force))
  · exact W
theorem Wf.mvG {g : GU} (W : Wf g) {s w : Nat} (hs : s < g.size) (hw : w < 4) : Wf (g.mvG s w) := by
  unfold GU.mvG
  split
  · rename_i c
    rcases nxt_cases W (W.place s hs).2.1 hw with ⟨f, -⟩ | ⟨a, b, ha, hb, hk, hin, -, -, -, f⟩
    · exact absurd f c.1
    · have := c.2.2.1
      rw [f] at this ⊢
      exact W.move hs hk hin this
  · exact W
theorem Wf.actG {g : GU} (W : Wf g) {s w : Nat} {n : Int32} (hs : s < g.size) : Wf (g.actG s w n) := by
  unfold GU.actG
  split
  · rename_i c; exact W.mvG hs c
  · split
    · exact W.cutG hs
    · split
      · exact (Wf.mk' (k_r1 := W.r1) (k_r8 := W.r8) (k_c1 := W.c1) (k_c8 := W.c8) (k_s8 := W.s8) (k_h1 := W.h1) (k_sea := W.sea) (k_fast := W.fast) (k_out := W.out) (k_chan := W.chan) (k_place := W.place) (k_dist := W.dist) (k_str := W.str) (k_done := W.done) (k_way := W.way) (k_force := W.force))
      · exact W
theorem Wf.doL {g : GU} (W : Wf g) {s k : Nat} {r : OR} (hs : s < g.size) : Wf (g.doL s r k) := by
  unfold GU.doL
  exact (Wf.actG (g := g.setL s (nI k)) W.setL hs).setD actR_01
theorem Wf.cmdL {g : GU} (W : Wf g) {s : Nat} {r : OR} (hs : s < g.size) : ∀ m k, Wf (cmdL g s r m k) := by
  intro m
  induction m with
  | zero => intro k; exact W
  | succ m ih =>
    intro k
    show Wf (if g.holds s r k = true then g.doL s r k else Jvm.Pilot.CIcePilotsLaw_law_r1887_8f2fdb.cmdL g s r m (k + 1))
    split
    · exact W.doL hs
    · exact ih (k + 1)
theorem Wf.cmd {om : Nat → Option OR} {g : GU} (W : Wf g) {s : Nat} (hs : s < g.size) : Wf (g.cmd om s) := by
  have W1 : Wf ((g.setL s (-1)).setD s 0) := W.setL.setD (Or.inl rfl)
  unfold GU.cmd
  split
  · exact W1
  · split
    · exact W1
    · exact W1.cmdL hs _ _
theorem Wf.cmdN {om : Nat → Option OR} {g : GU} (W : Wf g) : ∀ m, m ≤ g.size → Wf (cmdN om g m) := by
  intro m
  induction m with
  | zero => intro _; exact W
  | succ m ih => intro h; exact (ih (by omega)).cmd (by rw [(cmdN_same m).2.2.1]; omega)
theorem Wf.drf {g : GU} (W : Wf g) {wy : Nat} {fo : Int32} (hw : wy < 4) : Wf (g.drf wy fo) := by
  unfold GU.drf
  split
  · exact (Wf.mk'
        (k_r1 := W.r1)
        (k_r8 := W.r8)
        (k_c1 := W.c1)
        (k_c8 := W.c8)
        (k_s8 := W.s8)
        (k_h1 := W.h1)
        (k_sea := W.sea)
        (k_fast := W.fast)
        (k_out := fun k hk ho => by
          have t0 := (tog_out W hw (fo := fo) hk ho).1
          obtain ⟨o1, o2, o3, o4⟩ := W.out k hk ho
          refine ⟨o1, ?_, ?_, o4⟩
          · show rF g.level 0 64 (fun k => clampT (g.tog wy fo k)) k = 0
            rw [rF_in (by omega) (by omega), t0]; rfl
          · show rF g.ridged 0 64 (fun k => g.ridged k + (g.tog wy fo k - clampT (g.tog wy fo k))) k = 0
            rw [rF_in (by omega) (by omega), t0, o3]; rfl)
        (k_chan := W.chan)
        (k_place := W.place)
        (k_dist := W.dist)
        (k_str := W.str)
        (k_done := W.done)
        (k_way := W.way)
        (k_force := W.force))
  · exact W
theorem ice1_same {om : Nat → Option OR} {g : GU} : (g.ice1 om).rows = g.rows ∧ (g.ice1 om).cols = g.cols ∧ (g.ice1 om).size = g.size ∧ (g.ice1 om).hour = g.hour ∧ (g.ice1 om).laid = g.laid ∧ (g.ice1 om).sea = g.sea ∧ (g.ice1 om).fast = g.fast ∧ (g.ice1 om).str = g.str ∧ (g.ice1 om).ord = g.ord ∧ (g.ice1 om).cold = g.cold ∧ (g.ice1 om).way = g.way ∧ (g.ice1 om).force = g.force := by
  obtain ⟨t1, t2, t3, t4, t5, t6, t7, t8, t9, t10, t11, t12, t13, t14, t15, t16⟩ := cmdN_same (om := om) (g := g) g.size
  obtain ⟨u1, u2, u3, u4, u5, u6, u7, u8, u9, u10, u11, u12, u13, u14, u15, u16, u17, u18, u19⟩ := frzN_same (g := cmdN om g g.size) (cold := g.cold g.hour) (8 * g.rows)
  exact ⟨u1.trans t1, u2.trans t2, u3.trans t3, u4.trans t4, u5.trans t5, u6.trans t8, u7.trans t9, u9.trans t12, u16.trans t13, u17.trans t14, u18.trans t15, u19.trans t16⟩
theorem Wf.ice1 {om : Nat → Option OR} {g : GU} (W : Wf g) : Wf (g.ice1 om) := by
  have := W.r8
  exact (W.cmdN g.size (Nat.le_refl _)).frzN _ (by omega)
def SameH (g g' : GU) : Prop := g'.rows = g.rows ∧ g'.cols = g.cols ∧ g'.size = g.size ∧ g'.laid = g.laid ∧ g'.sea = g.sea ∧ g'.fast = g.fast ∧ g'.str = g.str ∧ g'.ord = g.ord ∧ g'.cold = g.cold ∧ g'.way = g.way ∧ g'.force = g.force
theorem SameH.rfl' {g : GU} : SameH g g := ⟨rfl, rfl, rfl, rfl, rfl, rfl, rfl, rfl, rfl, rfl, rfl⟩
theorem SameH.trans {g g' g'' : GU} (h : SameH g g') (k : SameH g' g'') : SameH g g'' := by
  obtain ⟨h1, h2, h3, h4, h5, h6, h7, h8, h9, h10, h11⟩ := h
  obtain ⟨k1, k2, k3, k4, k5, k6, k7, k8, k9, k10, k11⟩ := k
  exact ⟨k1.trans h1, k2.trans h2, k3.trans h3, k4.trans h4, k5.trans h5, k6.trans h6, k7.trans h7, k8.trans h8, k9.trans h9, k10.trans h10, k11.trans h11⟩
theorem drf_un {g : GU} {wy : Nat} {fo : Int32} : (g.drf wy fo).rows = g.rows ∧ (g.drf wy fo).cols = g.cols ∧ (g.drf wy fo).size = g.size ∧ (g.drf wy fo).laid = g.laid ∧ (g.drf wy fo).sea = g.sea ∧ (g.drf wy fo).fast = g.fast ∧ (g.drf wy fo).str = g.str ∧ (g.drf wy fo).ord = g.ord ∧ (g.drf wy fo).cold = g.cold ∧ (g.drf wy fo).way = g.way ∧ (g.drf wy fo).force = g.force ∧ (g.drf wy fo).grown = g.grown ∧ (g.drf wy fo).melted = g.melted ∧ (g.drf wy fo).done = g.done ∧ (g.drf wy fo).fuel = g.fuel ∧ (g.drf wy fo).line = g.line ∧ (g.drf wy fo).moved = g.moved ∧ (g.drf wy fo).place = g.place ∧ (g.drf wy fo).told = g.told ∧ (g.drf wy fo).chan = g.chan ∧ (g.drf wy fo).hour = g.hour := by
  unfold GU.drf
  split <;> exact ⟨rfl, rfl, rfl, rfl, rfl, rfl, rfl, rfl, rfl, rfl, rfl, rfl, rfl, rfl, rfl, rfl, rfl, rfl, rfl, rfl, rfl⟩
theorem hr_same {om : Nat → Option OR} {g : GU} : SameH g (g.hr om) := by
  obtain ⟨t1, t2, t3, t4, t5, t6, t7, t8, t9, t10, t11, t12⟩ := ice1_same (om := om) (g := g)
  obtain ⟨d1, d2, d3, d4, d5, d6, d7, d8, d9, d10, d11, -⟩ := drf_un (g := g.ice1 om) (wy := (g.way g.hour).toNatClampNeg) (fo := g.force g.hour)
  exact ⟨d1.trans t1, d2.trans t2, d3.trans t3, d4.trans t5, d5.trans t6, d6.trans t7, d7.trans t8, d8.trans t9, d9.trans t10, d10.trans t11, d11.trans t12⟩
theorem Wf.hr {om : Nat → Option OR} {g : GU} (W : Wf g) (hh : g.hour < 1000) : Wf (g.hr om) := by
  obtain ⟨wy, hwy, ewy⟩ := W.way g.hour hh
  unfold GU.hr
  rw [ewy, nI_clamp (by omega)]
  exact ((W.ice1.drf (by omega)).cls).setH (by omega)
def TXs (om : Nat → Option OR) (g : GU) : Prop := ∀ s, s < g.size → ∃ n ln ac, OrdR om (g.ord s) n ln ac
theorem Rg.txs {om : Nat → Option OR} {all : Nat → Int32} {g : GU} (R : Rg om all g) : TXs om g := fun s hs => ⟨_, _, _, R.ord s hs⟩
theorem TXs.sameH {om : Nat → Option OR} {g g' : GU} (h : TXs om g) (s : SameH g g') : TXs om g' := fun t ht => by
  obtain ⟨h1, h2, h3, h4, h5, h6, h7, h8, h9, h10, h11⟩ := s
  rw [h8]; exact h t (by rw [h3] at ht; exact ht)
theorem frz_grown {g : GU} {cold : Int32} (hc : cold ≤ 0) : ∀ m, (frzN g cold m).grown = g.grown := by
  intro m
  induction m with
  | zero => rfl
  | succ m ih =>
    show ((frzN g cold m).frz cold m).grown = _
    unfold GU.frz
    by_cases s0 : (frzN g cold m).sea m = 0
    · rw [if_pos s0]; exact ih
    · rw [if_neg s0, if_neg (fun q => q hc)]
      by_cases d : 0 ≤ cold
      · rw [if_pos d]; exact ih
      · rw [if_neg d]; exact ih
theorem frz_melted {g : GU} {cold : Int32} (hc : ¬ cold ≤ 0) : ∀ m, (frzN g cold m).melted = g.melted ∧ (frzN g cold m).ridged = g.ridged := by
  intro m
  induction m with
  | zero => exact ⟨rfl, rfl⟩
  | succ m ih =>
    show ((frzN g cold m).frz cold m).melted = _ ∧ ((frzN g cold m).frz cold m).ridged = _
    unfold GU.frz
    by_cases s0 : (frzN g cold m).sea m = 0
    · rw [if_pos s0]; exact ih
    · rw [if_neg s0, if_pos hc]
      exact ih
theorem c_hour_83 {Q : Int32 → Int32 → Int32 → (Nat → Int32) → (Nat → Int32) → (Nat → Int32) → (Nat → Int32) → (Nat → Int32) → (Nat → Int32) → (Nat → Int32) → (Nat → Int32) → (Nat → Int32) → (Nat → Int32) → Prop} {om : Nat → Option OR} {g g0 : GU} {ar : Nat → Int32} (W : Wf g) (hh : g.hour < 1000) (hd : g.ice1 om = g0) (h : ∀ ar', Q (nI (g.hour + 1)) (g.hr om).grown (g.hr om).melted (g.hr om).done (g.hr om).fuel (g.hr om).line (g.hr om).moved (g.hr om).place (g.hr om).told ar' (g.hr om).chan (g.hr om).level (g.hr om).ridged) : wX2_passHour_83 Q om (g.cold g.hour) (nI g.hour) (nI g.size) (nI g.rows) (nI g.cols) g0.grown g0.melted g0.done g0.fuel g0.line g0.moved g.ord g0.place g.str g0.told ar g0.chan g.fast g0.level g0.ridged g.sea g.cold g.force g.way := by
  obtain ⟨wy, hwy, ewy⟩ := W.way g.hour hh
  obtain ⟨t1, t2, t3, t4, t5, t6, t7, t8, t9, t10, t11, t12⟩ := ice1_same (om := om) (g := g)
  have W0 : Wf (g.ice1 om) := W.ice1
  rw [hd] at t1 t2 t3 t4 t5 t6 t7 t8 t9 t10 t11 t12 W0
  unfold wX2_passHour_83
  have v := vp_in_nI hh (show 1000 < 2 ^ 31 by omega)
  unfold GU.hr at h
  rw [hd, ewy, nI_clamp (by omega)] at h
  obtain ⟨d1, d2, d3, d4, d5, d6, d7, d8, d9, d10, d11, d12, d13, d14, d15, d16, d17, d18, d19, d20, d21⟩ := drf_un (g := g0) (wy := wy) (fo := g.force g.hour)
  refine ⟨v, v, ?_⟩
  rw [nI_clamp (by omega), ewy, nI_1]
  have key := c_drift (Q := fun r_ice_arrived_3 r_ice_level_4 r_ice_ridged_5 => (wX3_closeChannels (fun r_ice_channel_6 => (Q (nI (g.hour + 1)) g0.grown g0.melted g0.done g0.fuel g0.line g0.moved g0.place g0.told r_ice_arrived_3 r_ice_channel_6 r_ice_level_4 r_ice_ridged_5)) ((nI g.hour - (7 : Int32)) + ((if (g.cold g.hour) < (0 : Int32) then (0 : Int32) else (g.cold g.hour)) / (10 : Int32))) (nI g.rows) r_ice_arrived_3 g0.chan)) (arr0 := ar) W0 (wy := wy) (by omega) (fo := g.force g.hour) (fun arr ha => ?_)
  · rw [t1, t2, t6, t7] at key
    exact key
  · have kc := c_close (Q := fun r_ice_channel_6 => (Q (nI (g.hour + 1)) g0.grown g0.melted g0.done g0.fuel g0.line g0.moved g0.place g0.told arr r_ice_channel_6 (g0.drf wy (g.force g.hour)).level (g0.drf wy (g.force g.hour)).ridged)) (g := g0.drf wy (g.force g.hour)) (arr := g0.arr wy (g.force g.hour)) (lat := nI g.hour - 7 + cmax (g.cold g.hour) / 10) (W0.drf (by omega)) ha ?_
    · rw [d1, d20, t1] at kc
      exact kc
    · have hx := h arr
      show Q _ _ _ _ _ _ _ _ _ _ _ _ _
      rw [← d12, ← d13, ← d14, ← d15, ← d16, ← d17, ← d18, ← d19]
      exact hx
theorem c_hour {Q : Int32 → Int32 → Int32 → (Nat → Int32) → (Nat → Int32) → (Nat → Int32) → (Nat → Int32) → (Nat → Int32) → (Nat → Int32) → (Nat → Int32) → (Nat → Int32) → (Nat → Int32) → (Nat → Int32) → Prop} {om : Nat → Option OR} {g : GU} {ar : Nat → Int32} (W : Wf g) (T : TXs om g) (hh : g.hour < 1000) (h : ∀ ar', Q (nI (g.hour + 1)) (g.hr om).grown (g.hr om).melted (g.hr om).done (g.hr om).fuel (g.hr om).line (g.hr om).moved (g.hr om).place (g.hr om).told ar' (g.hr om).chan (g.hr om).level (g.hr om).ridged) : wX2_passHour Q om (nI g.hour) (nI g.size) (nI g.rows) (nI g.cols) g.grown g.melted g.done g.fuel g.line g.moved g.ord g.place g.str g.told ar g.chan g.fast g.level g.ridged g.sea g.cold g.force g.way := by
  have h8 := W.s8
  unfold wX2_passHour
  refine ip_F (nI_pos (by omega)) (ip_T (by rw [show (1000 : Int32) = nI 1000 from rfl, nI_ltI (by omega) (by omega)]; exact hh) ⟨g.size + 1, ?_⟩)
  have lp : ∀ (m i : Nat), i + m = g.size → wX2_passHour_20 Q om (m + 1) (nI i) (nI g.hour) (nI g.size) (nI g.rows) (nI g.cols) g.grown g.melted (cmdN om g i).done (cmdN om g i).fuel (cmdN om g i).line (cmdN om g i).moved g.ord (cmdN om g i).place g.str (cmdN om g i).told ar (cmdN om g i).chan g.fast g.level g.ridged g.sea g.cold g.force g.way := by
    intro m
    induction m with
    | zero =>
      intro i hi
      have e : i = g.size := by omega
      subst e
      refine ip_T (nI_le (Nat.le_refl _) (by omega)) ⟨vp_in_nI hh (by omega), ?_⟩
      rw [nI_clamp (by omega)]
      obtain ⟨t1, t2, t3, t4, t5, t6, t7, t8, t9, t10, t11, t12, t13, t14, t15, t16⟩ := cmdN_same (om := om) (g := g) g.size
      have W1 : Wf (cmdN om g g.size) := W.cmdN g.size (Nat.le_refl _)
      obtain ⟨u1, u2, u3, u4, u5, u6, u7, u8, u9, u10, u11, u12, u13, u14, u15, u16, u17, u18, u19⟩ := frzN_same (g := cmdN om g g.size) (cold := g.cold g.hour) (8 * g.rows)
      refine ip_split (fun c => ip_split (fun d => ?_) (fun d => ?_)) (fun c => ?_)
      · have ez : g.cold g.hour = 0 := by
          apply Int32.toInt_inj.mp
          rw [ip_leI] at c d
          have : (0 : Int32).toInt = 0 := rfl
          omega
        have hd : g.ice1 om = cmdN om g g.size := by unfold GU.ice1; rw [ez]; exact frzN_zero _
        have := c_hour_83 (ar := ar) W hh hd h
        rw [t6, t7, t10, t11] at this
        exact this
      · have key := c_melt (Q := fun f_ice_melted_11 r_ice_level_12 r_ice_ridged_13 => (wX2_passHour_83 Q om (g.cold g.hour) (nI g.hour) (nI g.size) (nI g.rows) (nI g.cols) g.grown f_ice_melted_11 (cmdN om g g.size).done (cmdN om g g.size).fuel (cmdN om g g.size).line (cmdN om g g.size).moved g.ord (cmdN om g g.size).place g.str (cmdN om g g.size).told ar (cmdN om g g.size).chan g.fast r_ice_level_12 r_ice_ridged_13 g.sea g.cold g.force g.way)) W1 c d ?_
        · rw [t1, t7, t8, t10, t11] at key; exact key
        · have := c_hour_83 (ar := ar) W hh rfl h
          unfold GU.ice1 at this
          rw [u8, u10, u11, u12, u13, u14, u15] at this
          have gr : (frzN (cmdN om g g.size) (g.cold g.hour) (8 * g.rows)).grown = g.grown := (frz_grown c _).trans t6
          rw [gr] at this
          rw [t1]; exact this
      · have key := c_grow (Q := fun f_ice_grown_14 r_ice_level_15 => (wX2_passHour_83 Q om (g.cold g.hour) (nI g.hour) (nI g.size) (nI g.rows) (nI g.cols) f_ice_grown_14 g.melted (cmdN om g g.size).done (cmdN om g g.size).fuel (cmdN om g g.size).line (cmdN om g g.size).moved g.ord (cmdN om g g.size).place g.str (cmdN om g g.size).told ar (cmdN om g g.size).chan g.fast r_ice_level_15 g.ridged g.sea g.cold g.force g.way)) W1 c ?_
        · rw [t1, t6, t8, t10] at key; exact key
        · have := c_hour_83 (ar := ar) W hh rfl h
          unfold GU.ice1 at this
          rw [u8, u10, u11, u12, u13, u14, u15] at this
          have me : (frzN (cmdN om g g.size) (g.cold g.hour) (8 * g.rows)).melted = g.melted := (frz_melted c _).1.trans t7
          have ri : (frzN (cmdN om g g.size) (g.cold g.hour) (8 * g.rows)).ridged = g.ridged := (frz_melted c _).2.trans t11
          rw [me, ri] at this
          rw [t1]; exact this
    | succ m ih =>
      intro i hi
      obtain ⟨t1, t2, t3, t4, t5, t6, t7, t8, t9, t10, t11, t12, t13, t14, t15, t16⟩ := cmdN_same (om := om) (g := g) i
      refine ip_F (nI_ge (by omega) (by omega)) ?_
      rw [nI_1]
      obtain ⟨n, ln, ac, o⟩ := T i (by omega)
      have key := c_command (Q := fun r_fleet_done_16 r_fleet_fuel_17 r_fleet_line_18 r_fleet_moved_19 r_fleet_place_20 r_fleet_told_21 r_ice_channel_22 => (wX2_passHour_20 Q om (m + 1) (nI (i + 1)) (nI g.hour) (nI g.size) (nI g.rows) (nI g.cols) g.grown g.melted r_fleet_done_16 r_fleet_fuel_17 r_fleet_line_18 r_fleet_moved_19 g.ord r_fleet_place_20 g.str r_fleet_told_21 ar r_ice_channel_22 g.fast g.level g.ridged g.sea g.cold g.force g.way)) (om := om) (g := cmdN om g i) (W.cmdN i (by omega)) (s := i) (n := n) (ln := ln) (ac := ac) (by rw [t13]; exact o) (by rw [t3]; omega) (ih (i + 1) (by omega))
      rw [t4, t3, t1, t2, t13, t12, t10, t11, t8] at key
      exact key
  exact lp g.size 0 (by omega)
