/-! PURE LEVEL 9: stretches of a row; gulf, weather -/
def rF (f : Nat → Int32) (a n : Nat) (F : Nat → Int32) : Nat → Int32 := fun i => if a ≤ i ∧ i < a + n then F i else f i
theorem rF_in {f F : Nat → Int32} {a n i : Nat} (h : a ≤ i) (h2 : i < a + n) : rF f a n F i = F i := if_pos ⟨h, h2⟩
theorem rF_out {f F : Nat → Int32} {a n i : Nat} (h : i < a ∨ a + n ≤ i) : rF f a n F i = f i := if_neg (fun q => by omega)
theorem rF_0 {f F : Nat → Int32} {a : Nat} : rF f a 0 F = f := funext fun i => rF_out (by omega)
theorem rF_succ {f F : Nat → Int32} {a n : Nat} {v : Int32} (hv : v = F (a + n)) : upd (rF f a n F) (a + n) v = rF f a (n + 1) F := by
  funext i
  by_cases e : i = a + n
  · subst e; rw [pk_us, rF_in (by omega) (by omega), hv]
  · rw [pk_un e]
    by_cases h : a ≤ i ∧ i < a + n
    · rw [rF_in h.1 h.2, rF_in h.1 (by omega)]
    · rw [rF_out (by omega), rF_out (by omega)]
theorem rF_succ0 {f F : Nat → Int32} {n : Nat} {v : Int32} (hv : v = F n) : upd (rF f 0 n F) n v = rF f 0 (n + 1) F := by
  have := rF_succ (f := f) (F := F) (a := 0) (n := n) (v := v) (by rw [Nat.zero_add]; exact hv)
  rw [Nat.zero_add] at this
  exact this
theorem ip_put_loop {Q : (Nat → Int32) → (Nat → Int32) → (Nat → Int32) → Prop} {c wy fo : Int32} {cold force way : Nat → Int32} {a n : Nat} (hn : a + n ≤ 1000) (h : Q (rF cold a n fun _ => c) (rF force a n fun _ => fo) (rF way a n fun _ => wy)) : ∀ (m i : Nat), i + m = n → wX7_put_7 Q (m + 1) (nI (a + n)) c wy fo (nI (a + i)) (rF cold a i fun _ => c) (rF force a i fun _ => fo) (rF way a i fun _ => wy) := by
  intro m
  induction m with
  | zero =>
    intro i hi
    have e : i = n := by omega
    subst e
    exact ip_T (nI_le (Nat.le_refl _) (by omega)) h
  | succ m ih =>
    intro i hi
    have v := vp_in_nI (show a + i < 1000 by omega) (by omega)
    refine ip_F (nI_ge (by omega) (by omega)) (ip_F (nI_ge (a := a + i) (b := 1000) (by omega) (by omega)) ⟨v, v, v, ?_⟩)
    rw [nI_clamp (by omega), rF_succ (F := fun _ => c) rfl, rF_succ (F := fun _ => fo) rfl, rF_succ (F := fun _ => wy) rfl, nI_1]
    exact ih (i + 1) (by omega)
theorem ip_put {Q : (Nat → Int32) → (Nat → Int32) → (Nat → Int32) → Prop} {c wy fo : Int32} {cold force way : Nat → Int32} {a n : Nat} (hn : a + n ≤ 1000) (h : Q (rF cold a n fun _ => c) (rF force a n fun _ => fo) (rF way a n fun _ => wy)) : wX7_put Q (nI a) (nI (a + n)) c wy fo cold force way := by
  refine ⟨n + 1, ?_⟩
  rw [if_neg (nI_pos (by omega))]
  have := ip_put_loop hn h n 0 (by omega)
  rw [rF_0, rF_0, rF_0] at this
  exact this
def insI (R C k : Nat) : Int32 := bI (k / 8 < R ∧ k % 8 < C)
theorem ip_begin_loop {Q : Int32 → Int32 → Int32 → Int32 → Int32 → (Nat → Int32) → (Nat → Int32) → (Nat → Int32) → (Nat → Int32) → (Nat → Int32) → Prop} {R C : Nat} (hR : R ≤ 8) (hC : C ≤ 8) {chan fast level ridged sea : Nat → Int32} (h : Q (nI R) (nI C) 0 0 0 (rF chan 0 64 fun _ => -1) (rF fast 0 64 fun _ => 0) (rF level 0 64 fun _ => 0) (rF ridged 0 64 fun _ => 0) (rF sea 0 64 (insI R C))) : ∀ (m i : Nat), i + m = 64 → wX3_begin_27 Q (m + 1) (nI i) (nI R) (nI C) 0 0 0 (rF chan 0 i fun _ => -1) (rF fast 0 i fun _ => 0) (rF level 0 i fun _ => 0) (rF ridged 0 i fun _ => 0) (rF sea 0 i (insI R C)) := by
  intro m
  induction m with
  | zero =>
    intro i hi
    have e : i = 64 := by omega
    subst e
    exact ip_T (by decide) h
  | succ m ih =>
    intro i hi
    have v := vp_in_nI (show i < 64 by omega) (by omega)
    have d1 : nI i / 8 = nI (i / 8) := pk_div (d := 8) (by omega) (by omega) (by omega)
    have d2 : nI i - nI i / 8 * 8 = nI (i % 8) := pk_rem (d := 8) (by omega) (by omega) (by omega)
    refine ip_F (nI_ge (a := i) (b := 64) (by omega) (by omega)) ?_
    rw [d2, d1]
    have key : ∀ z : Int32, z = insI R C i → wX3_begin_62 Q (wX3_begin_27 Q (m + 1)) (nI i) (nI i) z (nI R) (nI C) 0 0 0 (rF chan 0 i fun _ => -1) (rF fast 0 i fun _ => 0) (rF level 0 i fun _ => 0) (rF ridged 0 i fun _ => 0) (rF sea 0 i (insI R C)) := by
      intro z hz
      unfold wX3_begin_62 wX3_empty
      rw [nI_clamp (by omega), ip_nb (Or.inl rfl), ip_nb (by rw [hz]; unfold insI bI; split <;> first | exact Or.inr rfl | exact Or.inl rfl), nI_1]
      rw [rF_succ0 (F := fun _ => (-1 : Int32)) rfl, rF_succ0 (f := fast) (F := fun _ => (0 : Int32)) rfl, rF_succ0 (f := level) (F := fun _ => (0 : Int32)) rfl, rF_succ0 (f := ridged) (F := fun _ => (0 : Int32)) rfl, rF_succ0 (f := sea) (F := insI R C) hz]
      exact ⟨v, v, v, v, v, ih (i + 1) (by omega)⟩
    rw [nI_leI (by omega) (by omega), nI_leI (by omega) (by omega)]
    refine ip_split (fun c => key 0 ?_) (fun c => ip_split (fun d => key 0 ?_) (fun d => key 1 ?_))
    · rw [insI, bI_F (by omega)]
    · rw [insI, bI_F (by omega)]
    · rw [insI, bI_T (by omega)]
def GU.beg (g : GU) (R C : Nat) : GU := (((R), (C), (0), (0), (0), (0), (0), (rF g.sea 0 64 (insI R C)), (rF g.fast 0 64 fun _ => 0), (rF g.level 0 64 fun _ => 0), (rF g.ridged 0 64 fun _ => 0), (rF g.chan 0 64 fun _ => -1), g.str, g.fuel, g.place, g.told, g.moved, g.line, g.done, g.ord, (rF g.cold 0 1000 fun _ => 0), (rF g.way 0 1000 fun _ => 0), (rF g.force 0 1000 fun _ => 0)) : GU)
theorem ip_begin {Q : Int32 → Int32 → Int32 → Int32 → Int32 → Int32 → Int32 → (Nat → Int32) → (Nat → Int32) → (Nat → Int32) → (Nat → Int32) → (Nat → Int32) → (Nat → Int32) → (Nat → Int32) → (Nat → Int32) → Prop} {R C : Nat} (hR : R ≤ 8) (hC : C ≤ 8) {g : GU} {a1 a2 a3 a4 a5 a6 a7 : Int32} (h : Q (nI 0) (nI 0) (nI R) (nI C) 0 0 0 (g.beg R C).chan (g.beg R C).fast (g.beg R C).level (g.beg R C).ridged (g.beg R C).sea (g.beg R C).cold (g.beg R C).force (g.beg R C).way) : wX2_begin Q (nI R) (nI C) a1 a2 a3 a4 a5 a6 a7 g.chan g.fast g.level g.ridged g.sea g.cold g.force g.way := by
  unfold wX2_begin wX3_begin
  refine ⟨65, ?_⟩
  have := ip_begin_loop (Q := fun f_ice_rows_1 f_ice_columns_2 f_ice_laid_3 f_ice_grown_4 f_ice_melted_5 r_ice_channel_6 r_ice_fast_7 r_ice_level_8 r_ice_ridged_9 r_ice_sea_10 => (wX7_put (fun r_weather_cold_11 r_weather_force_12 r_weather_way_13 => (Q (0 : Int32) (0 : Int32) f_ice_rows_1 f_ice_columns_2 f_ice_laid_3 f_ice_grown_4 f_ice_melted_5 r_ice_channel_6 r_ice_fast_7 r_ice_level_8 r_ice_ridged_9 r_ice_sea_10 r_weather_cold_11 r_weather_force_12 r_weather_way_13)) (0 : Int32) (1000 : Int32) (0 : Int32) (0 : Int32) (0 : Int32) g.cold g.force g.way)) hR hC (chan := g.chan) (fast := g.fast) (level := g.level) (ridged := g.ridged) (sea := g.sea) (ip_put (a := 0) (n := 1000) (by omega) h) 64 0 (by omega)
  rw [rF_0, rF_0, rF_0, rF_0, rF_0] at this
  exact this
theorem beg_chan {g : GU} {R C k : Nat} (h : k < 64) : (g.beg R C).chan k = -1 := by
  show rF g.chan 0 64 (fun _ => -1) k = -1
  rw [rF_in (by omega) (by omega)]
theorem beg_fast {g : GU} {R C k : Nat} (h : k < 64) : (g.beg R C).fast k = 0 := by
  show rF g.fast 0 64 (fun _ => 0) k = 0
  rw [rF_in (by omega) (by omega)]
theorem beg_level {g : GU} {R C k : Nat} (h : k < 64) : (g.beg R C).level k = 0 := by
  show rF g.level 0 64 (fun _ => 0) k = 0
  rw [rF_in (by omega) (by omega)]
theorem beg_ridged {g : GU} {R C k : Nat} (h : k < 64) : (g.beg R C).ridged k = 0 := by
  show rF g.ridged 0 64 (fun _ => 0) k = 0
  rw [rF_in (by omega) (by omega)]
theorem beg_cold {g : GU} {R C k : Nat} (h : k < 1000) : (g.beg R C).cold k = 0 := by
  show rF g.cold 0 1000 (fun _ => 0) k = 0
  rw [rF_in (by omega) (by omega)]
theorem beg_way {g : GU} {R C k : Nat} (h : k < 1000) : (g.beg R C).way k = 0 := by
  show rF g.way 0 1000 (fun _ => 0) k = 0
  rw [rF_in (by omega) (by omega)]
theorem beg_force {g : GU} {R C k : Nat} (h : k < 1000) : (g.beg R C).force k = 0 := by
  show rF g.force 0 1000 (fun _ => 0) k = 0
  rw [rF_in (by omega) (by omega)]
theorem beg_sea {g : GU} {R C k : Nat} (h : k < 64) : (g.beg R C).sea k = insI R C k := by
  show rF g.sea 0 64 (insI R C) k = _
  rw [rF_in (by omega) (by omega)]
theorem Wf.beg {g : GU} {R C : Nat} (h1 : 1 ≤ R) (h2 : R ≤ 8) (h3 : 1 ≤ C) (h4 : C ≤ 8) (hd : ∀ s, s < 8 → g.done s = 0 ∨ g.done s = 1) : Wf (g.beg R C) :=
  Wf.mk'
    (k_r1 := h1)
    (k_r8 := h2)
    (k_c1 := h3)
    (k_c8 := h4)
    (k_s8 := Nat.zero_le _)
    (k_h1 := Nat.zero_le _)
    (k_sea := fun k hk => by
    rw [beg_sea hk]
    unfold insI bI; split
    · exact Or.inr rfl
    · exact Or.inl rfl)
    (k_fast := fun k hk => Or.inl (beg_fast hk))
    (k_out := fun k hk ho => by
    refine ⟨?_, beg_level hk, beg_ridged hk, beg_chan hk⟩
    rw [beg_sea hk]
    exact bI_F ho)
    (k_chan := fun k hk => Or.inl (beg_chan hk))
    (k_place := fun s hs => absurd hs (Nat.not_lt_zero s))
    (k_dist := fun s t hs => absurd hs (Nat.not_lt_zero s))
    (k_str := fun s hs => absurd hs (Nat.not_lt_zero s))
    (k_done := hd)
    (k_way := fun t ht => ⟨0, by omega, beg_way ht⟩)
    (k_force := fun t ht => ⟨0, by omega, beg_force ht⟩)
def cellV (i : Nat) : Int32 := if (i - 40) % 5 = 0 then 1 else if (i - 40) % 5 = 3 then -1 else 0
theorem ip_begins_115 {Q : (Nat → Int32) → Prop} {all : Nat → Int32} (h : Q (rF all 460 3000 fun _ => 0)) : ∀ (m i : Nat), i + m = 3000 → wX11_begins_115 Q (m + 1) (nI i) (rF all 460 i fun _ => 0) := by
  intro m
  induction m with
  | zero =>
    intro i hi
    have e : i = 3000 := by omega
    subst e
    exact ip_T (by decide) h
  | succ m ih =>
    intro i hi
    refine ip_F (nI_ge (a := i) (b := 3000) (by omega) (by omega)) ?_
    rw [show (460 : Int32) + nI i = nI (460 + i) from nI_add 460 i, nI_clamp (by omega), rF_succ (F := fun _ => (0 : Int32)) rfl, nI_1]
    exact ⟨vp_in_nI (by omega) (by omega), ih (i + 1) (by omega)⟩
theorem ip_begins_61 {Q : (Nat → Int32) → Prop} {Kf : Int32 → (Nat → Int32) → Prop} {all : Nat → Int32} {k : Nat} (hk : k < 64) (h : Kf (nI k + 1) (rF all 40 (5 * k + 5) cellV)) : ∀ (m i : Nat), i + m = 5 → wX11_begins_61 Q Kf (m + 1) (nI k) (nI i) (rF all 40 (5 * k + i) cellV) := by
  intro m
  induction m with
  | zero =>
    intro i hi
    have e : i = 5 := by omega
    subst e
    exact ip_T (by decide) h
  | succ m ih =>
    intro i hi
    refine ip_F (nI_ge (a := i) (b := 5) (by omega) (by omega)) ?_
    have key : ∀ z : Int32, z = cellV (40 + (5 * k + i)) → wX11_begins_100 Q (wX11_begins_61 Q Kf (m + 1)) (nI k) (nI i) ((40 : Int32) + (5 : Int32) * nI k + nI i) z (rF all 40 (5 * k + i) cellV) := by
      intro z hz
      unfold wX11_begins_100
      rw [show (40 : Int32) + (5 : Int32) * nI k + nI i = nI (40 + (5 * k + i)) from by simp only [ip_lit, pk_mul, nI_add, Nat.add_assoc], nI_clamp (by omega), nI_1, rF_succ hz]
      exact ⟨vp_in_nI (by omega) (by omega), ih (i + 1) (by omega)⟩
    have e5 : (40 + (5 * k + i) - 40) % 5 = i := by omega
    refine ip_split' (fun c => key 1 ?_) (fun c => ip_split' (fun d => key (-1) ?_) (fun d => key 0 ?_))
    · have : i = 0 := by rw [show (0 : Int32) = nI 0 from rfl, nI_eq (by omega) (by omega)] at c; exact c
      unfold cellV; rw [e5, if_pos this]
    · have : i = 3 := by rw [show (3 : Int32) = nI 3 from rfl, nI_eq (by omega) (by omega)] at d; exact d
      unfold cellV; rw [e5, if_neg (by omega), if_pos this]
    · have h0 : i ≠ 0 := fun q => c (by rw [q]; rfl)
      have h3 : i ≠ 3 := fun q => d (by rw [q]; rfl)
      unfold cellV; rw [e5, if_neg h0, if_neg h3]
theorem ip_begins_52 {Q : (Nat → Int32) → Prop} {all : Nat → Int32} (h : Q (rF (rF all 40 320 cellV) 460 3000 fun _ => 0)) : ∀ (m i : Nat), i + m = 64 → wX11_begins_52 Q (m + 1) (nI i) (rF all 40 (5 * i) cellV) := by
  intro m
  induction m with
  | zero =>
    intro i hi
    have e : i = 64 := by omega
    subst e
    refine ip_T (by decide) ⟨3001, ?_⟩
    have := ip_begins_115 h 3000 0 (by omega)
    rw [rF_0] at this
    exact this
  | succ m ih =>
    intro i hi
    refine ip_F (nI_ge (a := i) (b := 64) (by omega) (by omega)) ⟨6, ?_⟩
    refine ip_begins_61 (k := i) (by omega) ?_ 5 0 (by omega)
    rw [nI_1]
    exact ih (i + 1) (by omega)
def begA (all : Nat → Int32) (R C : Int32) : Nat → Int32 := rF (rF (upd (upd (upd (upd (upd (upd (upd all 0 R) 1 C) 2 0) 3 0) 4 0) 5 0) 6 0) 40 320 cellV) 460 3000 fun _ => 0
theorem ip_begins {Q : (Nat → Int32) → Prop} {all : Nat → Int32} {R C : Int32} (h : Q (begA all R C)) : wX11_begins Q R C all := by
  unfold wX11_begins
  refine ⟨ip_in 0 _ rfl (by omega) (by omega), ip_in 1 _ rfl (by omega) (by omega), ip_in 2 _ rfl (by omega) (by omega), ip_in 3 _ rfl (by omega) (by omega), ip_in 4 _ rfl (by omega) (by omega), ip_in 5 _ rfl (by omega) (by omega), ip_in 6 _ rfl (by omega) (by omega), 65, ?_⟩
  have := ip_begins_52 (all := upd (upd (upd (upd (upd (upd (upd all 0 R) 1 C) 2 0) 3 0) 4 0) 5 0) 6 0) h 64 0 (by omega)
  rw [Nat.mul_zero, rF_0] at this
  exact this
theorem begA_un {all : Nat → Int32} {R C : Int32} (i : Nat) (h : 7 ≤ i ∧ i < 40 ∨ 360 ≤ i ∧ i < 460 ∨ 3460 ≤ i) : begA all R C i = all i := by
  unfold begA
  rw [rF_out (by omega), rF_out (by omega), pk_un (by omega), pk_un (by omega), pk_un (by omega), pk_un (by omega), pk_un (by omega), pk_un (by omega), pk_un (by omega)]
theorem begA_lo {all : Nat → Int32} {R C : Int32} (i : Nat) (h : i < 7) : begA all R C i = upd (upd (upd (upd (upd (upd (upd all 0 R) 1 C) 2 0) 3 0) 4 0) 5 0) 6 0 i := by
  unfold begA
  rw [rF_out (by omega), rF_out (by omega)]
theorem begA_cell {all : Nat → Int32} {R C : Int32} (k d : Nat) (hk : k < 64) (hd : d < 5) : begA all R C (40 + 5 * k + d) = if d = 0 then 1 else if d = 3 then -1 else 0 := by
  unfold begA
  rw [rF_out (by omega), rF_in (by omega) (by omega)]
  unfold cellV
  rw [show (40 + 5 * k + d - 40) % 5 = d by omega]
theorem begA_wea {all : Nat → Int32} {R C : Int32} (i : Nat) (h : 460 ≤ i ∧ i < 3460) : begA all R C i = 0 := by
  unfold begA
  rw [rF_in (by omega) (by omega)]
theorem Rg.beg {om : Nat → Option OR} {all : Nat → Int32} {g : GU} {R C : Nat} (hod : ∀ s, s < 8 → ∀ a, g.ord s = some a → ∃ r, om a = some r) : Rg om (begA all (nI R) (nI C)) (g.beg R C) :=
  Rg.mk'
    (k_rows := begA_lo 0 (by omega))
    (k_cols := begA_lo 1 (by omega))
    (k_size := begA_lo 2 (by omega))
    (k_hour := begA_lo 3 (by omega))
    (k_laid := begA_lo 4 (by omega))
    (k_grown := begA_lo 5 (by omega))
    (k_melted := begA_lo 6 (by omega))
    (k_sea := fun k hk hi => by
    have := begA_cell (all := all) (R := nI R) (C := nI C) k 0 hk (by omega)
    rw [if_pos rfl, Nat.add_zero] at this
    rw [this]
    rw [beg_sea hk]
    exact (bI_T hi).symm)
    (k_level := fun k hk => (begA_cell k 1 hk (by omega)).trans (beg_level hk).symm)
    (k_ridged := fun k hk => (begA_cell k 2 hk (by omega)).trans (beg_ridged hk).symm)
    (k_chan := fun k hk => (begA_cell k 3 hk (by omega)).trans (beg_chan hk).symm)
    (k_fast := fun k hk _ => (begA_cell k 4 hk (by omega)).trans (beg_fast hk).symm)
    (k_str := fun s hs => absurd hs (Nat.not_lt_zero s))
    (k_fuel := fun s hs => absurd hs (Nat.not_lt_zero s))
    (k_prow := fun s hs => absurd hs (Nat.not_lt_zero s))
    (k_pcol := fun s hs => absurd hs (Nat.not_lt_zero s))
    (k_told := fun s hs => absurd hs (Nat.not_lt_zero s))
    (k_moved := fun s hs => absurd hs (Nat.not_lt_zero s))
    (k_line := fun s hs => absurd hs (Nat.not_lt_zero s))
    (k_done := fun s hs => absurd hs (Nat.not_lt_zero s))
    (k_ord := fun s hs => absurd hs (Nat.not_lt_zero s))
    (k_cold := fun t ht => (begA_wea _ (by omega)).trans (beg_cold ht).symm)
    (k_way := fun t ht => (begA_wea _ (by omega)).trans (beg_way ht).symm)
    (k_force := fun t ht => (begA_wea _ (by omega)).trans (beg_force ht).symm)
    (k_od := hod)
theorem sim_gulf {om : Nat → Option OR} {all : Nat → Int32} {w : WH} (W : WfW w) (R : RW om all w) {y1 y2 : Int32} {K : Int32 → Int32 → Int32 → Int32 → Int32 → Int32 → Int32 → Int32 → (Nat → Int32) → (Nat → Int32) → (Nat → Int32) → (Nat → Int32) → (Nat → Int32) → (Nat → Int32) → (Nat → Int32) → (Nat → Int32) → Int32 → (Nat → Int32) → Prop}
    (hK : ∀ r hour size rows cols laid grown melted chan fast level ridged sea cold force way all', Ok om all ((((((rows), (cols), (size), (hour), (laid), (grown), (melted), (sea), (fast), (level), (ridged), (chan), w.g.str, w.g.fuel, w.g.place, w.g.told, w.g.moved, w.g.line, w.g.done, w.g.ord, (cold), (way), (force)) : GU)), w.tlen, w.tape, w.fault, w.place, w.psize, w.frm, w.takes, w.worth, w.ssize, w.settled) : WH) all' → K r (nI hour) (nI size) (nI rows) (nI cols) laid grown melted chan fast level ridged sea cold force way r all') :
    wX10_gulf (fun r a b c d e f g h i j k l m n o => wX11_gulf (fun r2 all' => K r a b c d e f g h i j k l m n o r2 all') y1 y2 all) y1 y2 (nI w.g.hour) (nI w.g.size) (nI w.g.rows) (nI w.g.cols) w.g.laid w.g.grown w.g.melted w.g.chan w.g.fast w.g.level w.g.ridged w.g.sea w.g.cold w.g.force w.g.way := by
  have hno : ∀ r, K r (nI w.g.hour) (nI w.g.size) (nI w.g.rows) (nI w.g.cols) w.g.laid w.g.grown w.g.melted w.g.chan w.g.fast w.g.level w.g.ridged w.g.sea w.g.cold w.g.force w.g.way r all := fun r => hK _ w.g.hour w.g.size w.g.rows w.g.cols _ _ _ _ _ _ _ _ _ _ _ _ (Ok.same W R)
  unfold wX10_gulf wX11_gulf
  simp only [p_within, p_isIn]
  refine ip_split (fun c => ip_T c (hno _)) (fun c => ip_split' (fun d => ip_F c (ip_T' d (hno _))) (fun d => ?_))
  obtain ⟨j1, h1, h2, e1, -⟩ := (inI_rng y1 1 8 (by omega) (by omega)).resolve_left c
  obtain ⟨j2, h3, h4, e2, -⟩ := (inI_rng y2 1 8 (by omega) (by omega)).resolve_left d
  subst e1; subst e2
  refine ip_begin h2 h4 (ip_F c (ip_F' d (ip_begins ?_)))
  exact hK 1 0 0 j1 j2 _ _ _ _ _ _ _ _ _ _ _ _ (Ok.gulf W R (g' := w.g.beg j1 j2) (Wf.beg h1 h2 h3 h4 W.g.done) (Rg.beg R.g.od) (fun i hi => begA_un i (by omega)))
