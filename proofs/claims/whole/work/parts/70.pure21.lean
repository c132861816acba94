/-! PURE LEVEL 20: channels close; an hour -/
def clsF (g : GU) (arr : Nat → Int32) (lat : Int32) (k : Nat) : Int32 := if g.chan k = -1 ∨ 0 < arr k ∨ ¬ lat < g.chan k then -1 else g.chan k
def GU.cls (g : GU) (arr : Nat → Int32) (lat : Int32) : GU := ((g.rows, g.cols, g.size, g.hour, g.laid, g.grown, g.melted, g.sea, g.fast, g.level, g.ridged, (rF g.chan 0 64 (clsF g arr lat)), g.str, g.fuel, g.place, g.told, g.moved, g.line, g.done, g.ord, g.cold, g.way, g.force) : GU)
theorem c_close {Q : (Nat → Int32) → Prop} {g : GU} (W : Wf g) {arr arr1 : Nat → Int32} {lat : Int32} (ha : Al64 arr1 arr) (h : Q (g.cls arr lat).chan) : wX3_closeChannels Q lat (nI g.rows) arr1 g.chan := by
  have hr := W.r8
  refine ⟨8 * g.rows + 1, ?_⟩
  have lp : ∀ (m i : Nat), i + m = 8 * g.rows → wX3_closeChannels_2 Q (m + 1) lat (nI i) (nI g.rows) arr1 (rF g.chan 0 i (clsF g arr lat)) := by
    intro m
    induction m with
    | zero =>
      intro i hi
      have e : i = 8 * g.rows := by omega
      subst e
      refine ip_T (by rw [r8I]; exact nI_le (Nat.le_refl _) (by omega)) ?_
      have e1 : rF g.chan 0 (8 * g.rows) (clsF g arr lat) = rF g.chan 0 64 (clsF g arr lat) := by
        funext k
        by_cases c : k < 8 * g.rows
        · rw [rF_in (by omega) (by omega), rF_in (by omega) (by omega)]
        · rw [rF_out (by omega)]
          by_cases d : k < 64
          · have ho : ¬ g.ins k := fun q => by have := q.1; omega
            rw [rF_in (by omega) (by omega)]
            unfold clsF
            rw [if_pos (Or.inl (W.out k d ho).2.2.2)]
            exact (W.out k d ho).2.2.2
          · rw [rF_out (by omega)]
      rw [e1]; exact h
    | succ m ih =>
      intro i hi
      have v := vp_in_nI (show i < 64 by omega) (by omega)
      have ih := ih (i + 1) (by omega)
      refine ip_F (by rw [r8I]; exact nI_ge (by omega) (by omega)) ⟨v, ?_⟩
      have c0 : rF g.chan 0 i (clsF g arr lat) i = g.chan i := rF_out (by omega)
      rw [nI_clamp (by omega), c0, ha i (by omega)]
      have yes : clsF g arr lat i = -1 → wX3_closeChannels_32 Q (wX3_closeChannels_2 Q (m + 1)) lat (nI i) (nI g.rows) arr1 (rF g.chan 0 i (clsF g arr lat)) := fun e => by
        unfold wX3_closeChannels_32 wX3_closeChannels_39
        rw [nI_clamp (by omega), nI_1, rF_succ0 (f := g.chan) (F := clsF g arr lat) e.symm]
        exact ⟨v, ih⟩
      refine ip_split (fun c => yes ?_) (fun c => ⟨v, ip_split (fun d => ?_) (fun d => yes ?_)⟩)
      · unfold clsF; rw [if_pos (Or.inr (Or.inl c))]
      · unfold wX3_closeChannels_39
        rw [nI_1]
        rw [← rF_keep (f := g.chan) (F := clsF g arr lat) (n := i) (by
          unfold clsF
          by_cases e : g.chan i = -1
          · rw [if_pos (Or.inl e), e]
          · rw [if_neg (fun q => by
              rcases q with q | q | q
              · exact e q
              · exact c q
              · exact q d)])] at ih
        exact ih
      · unfold clsF; rw [if_pos (Or.inr (Or.inr d))]
  have := lp (8 * g.rows) 0 (by omega)
  rw [rF_0] at this
  exact this
theorem i_lat {hh t q : Nat} (h1 : hh ≤ 1000) (h2 : t ≤ 1000) (h3 : q < 2 ^ 29) : (nI hh < nI t + (7 - nI q)) ↔ (nI hh - 7 + nI q < nI t) := by
  have e1 : nI t + (7 - nI q) = nI (t + 7) - nI q := by
    rw [Int32.sub_eq_add_neg, ← Int32.add_assoc, show (7 : Int32) = nI 7 from rfl, nI_add, ← Int32.sub_eq_add_neg]
  have e2 : nI hh - 7 + nI q = nI (hh + q) - nI 7 := by
    rw [Int32.sub_eq_add_neg, Int32.add_assoc, Int32.add_comm (-7), ← Int32.add_assoc, nI_add, Int32.sub_eq_add_neg]; rfl
  rw [e1, e2, ip_ltI, ip_ltI, pk_sub_toInt (by omega) (by omega), pk_sub_toInt (by omega) (by omega), nI_toInt (by omega), nI_toInt (by omega)]
  omega
theorem i_pos {c : Int32} (h : 0 ≤ c) : ∃ q : Nat, q < 2 ^ 29 ∧ c / 10 = nI q := by
  obtain ⟨m, hm, e⟩ := nI_of (x := c) (fun n => by rw [ip_ltI] at n; rw [ip_leI] at h; omega)
  subst e
  refine ⟨m / 10, by omega, ?_⟩
  exact pk_div (d := 10) hm (by omega) (by omega)
theorem Rg.setHour {om : Nat → Option OR} {all : Nat → Int32} {g : GU} (R : Rg om all g) (n : Nat) (v : Int32) (hv : v = nI n) (hs : g.size ≤ 8) : Rg om (upd all (3) v) ((g.rows, g.cols, g.size, (n), g.laid, g.grown, g.melted, g.sea, g.fast, g.level, g.ridged, g.chan, g.str, g.fuel, g.place, g.told, g.moved, g.line, g.done, g.ord, g.cold, g.way, g.force) : GU) :=
  Rg.mk'
    (k_rows := (pk_un (by omega)).trans R.rows)
    (k_cols := (pk_un (by omega)).trans R.cols)
    (k_size := (pk_un (by omega)).trans R.size)
    (k_hour := pk_us.trans hv)
    (k_laid := (pk_un (by omega)).trans R.laid)
    (k_grown := (pk_un (by omega)).trans R.grown)
    (k_melted := (pk_un (by omega)).trans R.melted)
    (k_sea := fun j hj hi => (pk_un (by omega)).trans (R.sea j hj hi))
    (k_level := fun j hj => (pk_un (by omega)).trans (R.level j hj))
    (k_ridged := fun j hj => (pk_un (by omega)).trans (R.ridged j hj))
    (k_chan := fun j hj => (pk_un (by omega)).trans (R.chan j hj))
    (k_fast := fun j hj hi => (pk_un (by omega)).trans (R.fast j hj hi))
    (k_str := fun j hj => (pk_un (by omega)).trans (R.str j hj))
    (k_fuel := fun j hj => (pk_un (by omega)).trans (R.fuel j hj))
    (k_prow := fun j hj => (pk_un (by omega)).trans (R.prow j hj))
    (k_pcol := fun j hj => (pk_un (by omega)).trans (R.pcol j hj))
    (k_told := fun j hj => (pk_un (by omega)).trans (R.told j hj))
    (k_moved := fun j hj => (pk_un (by omega)).trans (R.moved j hj))
    (k_line := fun j hj => (pk_un (by omega)).trans (R.line j hj))
    (k_done := fun j hj => (pk_un (by omega)).trans (R.done j hj))
    (k_ord := fun j hj => by rw [pk_un (by omega), show (fun i => upd all (3) v (3460 + 80 * j + i)) = fun i => all (3460 + 80 * j + i) from funext fun i => pk_un (by omega), show (fun i => upd all (3) v (4100 + 780 * j + i)) = fun i => all (4100 + 780 * j + i) from funext fun i => pk_un (by omega)]; exact R.ord j hj)
    (k_cold := fun j hj => (pk_un (by omega)).trans (R.cold j hj))
    (k_way := fun j hj => (pk_un (by omega)).trans (R.way j hj))
    (k_force := fun j hj => (pk_un (by omega)).trans (R.force j hj))
    (k_od := R.od)
abbrev GU.setH (g : GU) (n : Nat) : GU := ((g.rows, g.cols, g.size, (n), g.laid, g.grown, g.melted, g.sea, g.fast, g.level, g.ridged, g.chan, g.str, g.fuel, g.place, g.told, g.moved, g.line, g.done, g.ord, g.cold, g.way, g.force) : GU)
theorem Wf.cls {g : GU} (W : Wf g) {arr : Nat → Int32} {lat : Int32} : Wf (g.cls arr lat) := (Wf.mk'
    (k_r1 := W.r1)
    (k_r8 := W.r8)
    (k_c1 := W.c1)
    (k_c8 := W.c8)
    (k_s8 := W.s8)
    (k_h1 := W.h1)
    (k_sea := W.sea)
    (k_fast := W.fast)
    (k_out := fun k hk ho => by
      obtain ⟨o1, o2, o3, o4⟩ := W.out k hk ho
      refine ⟨o1, o2, o3, ?_⟩
      show rF g.chan 0 64 (clsF g arr lat) k = -1
      rw [rF_in (by omega) (by omega)]
      unfold clsF
      rw [if_pos (Or.inl o4)])
    (k_chan := fun k hk => by
      show rF g.chan 0 64 (clsF g arr lat) k = -1 ∨ ∃ t : Nat, t ≤ 1000 ∧ rF g.chan 0 64 (clsF g arr lat) k = nI t
      rw [rF_in (by omega) (by omega)]
      unfold clsF
      split
      · exact Or.inl rfl
      · exact W.chan k hk)
    (k_place := W.place)
    (k_dist := W.dist)
    (k_str := W.str)
    (k_done := W.done)
    (k_way := W.way)
    (k_force := W.force))
theorem Wf.setH {g : GU} (W : Wf g) {n : Nat} (hn : n ≤ 1000) : Wf (g.setH n) := (Wf.mk' (k_r1 := W.r1) (k_r8 := W.r8) (k_c1 := W.c1) (k_c8 := W.c8) (k_s8 := W.s8) (k_h1 := hn) (k_sea := W.sea) (k_fast := W.fast) (k_out := W.out) (k_chan := W.chan) (k_place := W.place) (k_dist := W.dist) (k_str := W.str) (k_done := W.done) (k_way := W.way) (k_force := W.force))
theorem m_close {om : Nat → Option OR} {Q : (Nat → Int32) → (Nat → Int32) → (Nat → Int32) → (Nat → Int32) → Prop} {all co le pi arr : Nat → Int32} {g : GU} (W : Wf g) {cm : Int32} (hcm : 0 ≤ cm) (ha : Al64 co arr) (hh : g.hour < 1000) (h : ∀ all', OkG om all ((g.cls arr (nI g.hour - 7 + cm / 10)).setH (g.hour + 1)) all' → Q all' co le pi) : ∀ (m i : Nat), i + m = 64 → ∀ all1, Rg om all1 ((g.rows, g.cols, g.size, g.hour, g.laid, g.grown, g.melted, g.sea, g.fast, g.level, g.ridged, (rF g.chan 0 i (clsF g arr (nI g.hour - 7 + cm / 10))), g.str, g.fuel, g.place, g.told, g.moved, g.line, g.done, g.ord, g.cold, g.way, g.force) : GU) → (∀ j, (7 ≤ j ∧ j < 40 ∨ 10340 ≤ j) → all1 j = all j) → wX11_anHour_150 Q (m + 1) (nI g.hour) (7 - cm / 10) (nI i) all1 co le pi := by
  obtain ⟨q, hq, eq⟩ := i_pos hcm
  rw [eq] at h ⊢
  have v3 := ip_in (x := 3) 3 53700 rfl (by omega) (by omega)
  intro m
  induction m with
  | zero =>
    intro i hi all1 R1 un
    have e : i = 64 := by omega
    subst e
    refine ip_T (by decide) ⟨v3, v3, ?_⟩
    rw [show (3 : Int32).toNatClampNeg = 3 from rfl, show all1 3 = nI g.hour from R1.hour, nI_1]
    exact h _ ⟨W.cls.setH (by omega), R1.setHour (g.hour + 1) _ rfl W.s8, fun j hj => by rw [pk_un (by omega)]; exact un j hj⟩
  | succ m ih =>
    intro i hi all1 R1 un
    have v := vp_in_nI (show i < 64 by omega) (by omega)
    have e1 : (40 : Int32) + 5 * nI i + 3 = nI (40 + 5 * i + 3) := by simp only [ip_lit, pk_mul, nI_add]
    have v1 := vp_in_nI (show 40 + 5 * i + 3 < 53700 by omega) (by omega)
    have own : all1 (40 + 5 * i + 3) = g.chan i := (R1.chan i (by omega)).trans (show rF g.chan 0 i (clsF g arr (nI g.hour - 7 + nI q)) i = g.chan i from rF_out (by omega))
    refine ip_F (nI_ge (a := i) (b := 64) (by omega) (by omega)) ?_
    rw [e1, nI_clamp (by omega), nI_clamp (by omega), own, ha i (by omega)]
    refine ⟨v1, ?_⟩
    have keep : clsF g arr (nI g.hour - 7 + nI q) i = g.chan i → wX11_anHour_211 Q (wX11_anHour_150 Q (m + 1)) (nI g.hour) (7 - nI q) (nI i) all1 co le pi := fun e => by
      unfold wX11_anHour_211
      rw [nI_1]
      refine ih (i + 1) (by omega) all1 ?_ un
      rw [← rF_keep (f := g.chan) (n := i) e]; exact R1
    have yes : clsF g arr (nI g.hour - 7 + nI q) i = -1 → wX11_anHour_196 Q (wX11_anHour_150 Q (m + 1)) (nI g.hour) (7 - nI q) (nI i) all1 co le pi := fun e => by
      unfold wX11_anHour_196 wX11_anHour_211
      rw [e1, nI_clamp (by omega), nI_1]
      refine ⟨v1, ih (i + 1) (by omega) _ ?_ (fun j hj => by rw [pk_un (by omega)]; exact un j hj)⟩
      have R2 := R1.setChan i (-1) (by omega)
      rw [← rF_succ0 (f := g.chan) (n := i) (F := clsF g arr (nI g.hour - 7 + nI q)) e.symm]
      exact R2
    rcases W.chan i (by omega) with e | ⟨t, ht, e⟩
    · refine ip_T (by rw [e]; decide) (keep ?_)
      unfold clsF; rw [if_pos (Or.inl e), e]
    · refine ip_F (by rw [e]; exact nI_pos (by omega)) ⟨v, ip_split (fun c => yes ?_) (fun c => ?_)⟩
      · unfold clsF; rw [if_pos (Or.inr (Or.inl c))]
      · rw [e, i_lat (by omega) ht hq]
        refine ip_split (fun d => keep ?_) (fun d => yes ?_)
        · unfold clsF
          rw [if_neg (fun z => by
            rcases z with z | z | z
            · rw [e] at z; exact nI_ne_m1 (by omega) z
            · exact c z
            · rw [e] at z; exact z d)]
        · unfold clsF
          rw [if_pos (Or.inr (Or.inr (by rw [e]; exact d)))]
def cmdN (om : Nat → Option OR) (g : GU) : Nat → GU
  | 0 => g
  | m + 1 => (cmdN om g m).cmd om m
theorem cmdN_same {om : Nat → Option OR} {g : GU} : ∀ m, SameG g (cmdN om g m) := by
  intro m
  induction m with
  | zero => exact SameG.rfl'
  | succ m ih => exact ih.trans cmd_same
def cmax (cold : Int32) : Int32 := if cold < 0 then 0 else cold
/-- what an hour does -/
def GU.ice1 (om : Nat → Option OR) (g : GU) : GU := frzN (cmdN om g g.size) (g.cold g.hour) (8 * g.rows)
def GU.hr (om : Nat → Option OR) (g : GU) : GU := ((((g.ice1 om).drf (g.way g.hour).toNatClampNeg (g.force g.hour)).cls ((g.ice1 om).arr (g.way g.hour).toNatClampNeg (g.force g.hour)) (nI g.hour - 7 + cmax (g.cold g.hour) / 10)).setH (g.hour + 1))
theorem cmax_pos (c : Int32) : 0 ≤ cmax c := by
  unfold cmax
  split
  · decide
  · rename_i n
    rw [ip_leI]; rw [ip_ltI] at n; have : (0 : Int32).toInt = 0 := rfl; omega
theorem m_cmdN {om : Nat → Option OR} {Q : (Nat → Int32) → (Nat → Int32) → (Nat → Int32) → (Nat → Int32) → Prop} {all co le : Nat → Int32} {g : GU} (W : Wf g) {x1 x2 : Int32} (h : ∀ all' pi, OkG om all (cmdN om g g.size) all' → ∃ j_, wX11_anHour_45 Q j_ x1 x2 0 all' co le pi) : ∀ (m i : Nat), i + m = g.size → ∀ all1 pi, OkG om all (cmdN om g i) all1 → wX11_anHour_22 Q (m + 1) x1 x2 (nI i) all1 co le pi := by
  have h8 := W.s8
  have v2 := ip_in (x := 2) 2 53700 rfl (by omega) (by omega)
  intro m
  induction m with
  | zero =>
    intro i hi all1 pi ok
    have e : i = g.size := by omega
    subst e
    refine ⟨v2, ip_T ?_ (h all1 pi ok)⟩
    rw [show (2 : Int32).toNatClampNeg = 2 from rfl, ok.2.1.size, (cmdN_same _).2.2.1]
    exact nI_le (Nat.le_refl _) (by omega)
  | succ m ih =>
    intro i hi all1 pi ok
    have sz : (cmdN om g i).size = g.size := (cmdN_same i).2.2.1
    refine ⟨v2, ip_F ?_ (m_command ok.1 ok.2.1 (by rw [sz]; omega) (fun all' pi' ok' => ?_))⟩
    · rw [show (2 : Int32).toNatClampNeg = 2 from rfl, ok.2.1.size, sz]
      exact nI_ge (by omega) (by omega)
    · rw [nI_1]
      exact ih (i + 1) (by omega) all' pi' (ok.trans ok')
theorem m_hour {om : Nat → Option OR} {Q : (Nat → Int32) → (Nat → Int32) → (Nat → Int32) → (Nat → Int32) → Prop} {all co le pi : Nat → Int32} {g : GU} (W : Wf g) (R : Rg om all g) (hh : g.hour < 1000) (h : ∀ all' co' le' pi', OkG om all (g.hr om) all' → Q all' co' le' pi') : wX11_anHour Q all co le pi := by
  have h8 := W.s8
  have hr8 := W.r8
  obtain ⟨wy, hwy, ewy⟩ := W.way g.hour hh
  obtain ⟨fo, hfo, efo⟩ := W.force g.hour hh
  unfold wX11_anHour
  rw [show (3 : Int32).toNatClampNeg = 3 from rfl, R.hour, show (460 : Int32) + 3 * nI g.hour = nI (460 + 3 * g.hour) from by simp only [ip_lit, pk_mul, nI_add], nI_clamp (by omega), R.cold g.hour hh]
  refine ⟨ip_in 3 _ rfl (by omega) (by omega), vp_in_nI (by omega) (by omega), g.size + 1, m_cmdN W (fun all1 pi1 ok1 => ?_) g.size 0 (by omega) all pi (OkG.same W R)⟩
  have s1 := cmdN_same (om := om) (g := g) g.size
  obtain ⟨t1, t2, t3, t4, t5, t6, t7, t8, t9, t10, t11, t12, t13, t14, t15, t16⟩ := s1
  refine ⟨(cmdN om g g.size).rows + 1, m_frz ok1.1 (fun all2 m ok2 => ?_) (cmdN om g g.size).rows 0 (by omega) all1 (OkG.same ok1.1 ok1.2.1)⟩
  have s2 := frzN_same (g := cmdN om g g.size) (cold := g.cold g.hour) (8 * (cmdN om g g.size).rows)
  obtain ⟨u1, u2, u3, u4, u5, u6, u7, u8, u9, u10, u11, u12, u13, u14, u15, u16, u17, u18, u19⟩ := s2
  have ei : frzN (cmdN om g g.size) (g.cold g.hour) (8 * (cmdN om g g.size).rows) = g.ice1 om := by unfold GU.ice1; rw [t1]
  rw [ei] at ok2 u1 u2 u3 u4 u5 u6 u7 u8 u9 u10 u11 u12 u13 u14 u15 u16 u17 u18 u19
  have iw : (g.ice1 om).way = g.way := u18.trans t15
  have ifo : (g.ice1 om).force = g.force := u19.trans t16
  have ih : (g.ice1 om).hour = g.hour := u4.trans t4
  have v0 := ip_in (x := 0) 0 53700 rfl (by omega) (by omega)
  refine ⟨v0, ip_T ?_ ?_⟩
  · rw [show (0 : Int32).toNatClampNeg = 0 from rfl, ok2.2.1.rows, u1]
    exact nI_le (Nat.le_refl _) (by omega)
  rw [show (460 : Int32) + 3 * nI g.hour + 1 = nI (460 + 3 * g.hour + 1) from by simp only [ip_lit, pk_mul, nI_add], show (460 : Int32) + 3 * nI g.hour + 2 = nI (460 + 3 * g.hour + 2) from by simp only [ip_lit, pk_mul, nI_add], nI_clamp (by omega), nI_clamp (by omega), ok2.2.1.way g.hour hh, ok2.2.1.force g.hour hh, iw, ifo, ewy, efo]
  refine ⟨vp_in_nI (by omega) (by omega), vp_in_nI (by omega) (by omega), m_drift ok2.1 ok2.2.1 (by omega) hfo (fun all3 co3 le3 ok3 hc3 => ?_)⟩
  have fin : ∀ cm, cm = cmax (g.cold g.hour) → wX11_anHour_142 Q (nI g.hour) 7 cm all3 co3 le3 pi1 := by
    intro cm hcm
    subst hcm
    refine ⟨65, ?_⟩
    have dh : ((g.ice1 om).drf wy (nI fo)).hour = g.hour := by
      unfold GU.drf; split
      · exact ih
      · exact ih
    have key := m_close (om := om) (Q := Q) (all := all3) (co := co3) (le := le3) (pi := pi1) (arr := (g.ice1 om).arr wy (nI fo)) ok3.1 (cm := cmax (g.cold g.hour)) (cmax_pos _) hc3 (by rw [dh]; exact hh) (fun all' ok' => h all' co3 le3 pi1 ?_) 64 0 (by omega) all3 (by rw [rF_0]; exact ok3.2.1) (fun _ _ => rfl)
    · rw [dh] at key; exact key
    · rw [dh] at ok'
      have ok' : OkG om all3 (g.hr om) all' := by
        unfold GU.hr
        rw [ewy, nI_clamp (by omega), efo]
        exact ok'
      exact (ok1.trans (ok2.trans (ok3.trans ok')))
  refine ip_split (fun c => fin _ ?_) (fun c => fin _ ?_)
  · unfold cmax; rw [if_neg (fun n => by rw [ip_ltI] at n; rw [ip_leI] at c; omega)]
  · unfold cmax; rw [if_pos (by rw [ip_ltI]; rw [ip_leI] at c; omega)]
