/-! PURE LEVEL 22: gulfs alike; a copy of one; hours -/
def AgG (g g' : GU) : Prop := (g'.rows = g.rows ∧ g'.cols = g.cols ∧ g'.size = g.size ∧ g'.hour = g.hour ∧ g'.laid = g.laid ∧ g'.grown = g.grown ∧ g'.melted = g.melted) ∧ (∀ k, k < 64 → g'.sea k = g.sea k ∧ g'.fast k = g.fast k ∧ g'.level k = g.level k ∧ g'.ridged k = g.ridged k ∧ g'.chan k = g.chan k) ∧ (∀ s, s < 8 → g'.str s = g.str s ∧ g'.fuel s = g.fuel s ∧ g'.place s = g.place s ∧ g'.told s = g.told s ∧ g'.moved s = g.moved s ∧ g'.line s = g.line s ∧ g'.done s = g.done s ∧ g'.ord s = g.ord s) ∧ (∀ t, t < 1000 → g'.cold t = g.cold t ∧ g'.way t = g.way t ∧ g'.force t = g.force t)
theorem Wf.ag {g g' : GU} (W : Wf g) (A : AgG g g') : Wf g' := by
  obtain ⟨⟨a1, a2, a3, a4, a5, a6, a7⟩, hc, hs, hw⟩ := A
  have s8 := W.s8
  have ei : ∀ k, g'.ins k ↔ g.ins k := fun k => by unfold GU.ins; rw [a1, a2]
  have ep : ∀ s, s < 8 → g'.pl s = g.pl s := fun s h => by unfold GU.pl; rw [(hs s h).2.2.1]
  refine Wf.mk' (by rw [a1]; exact W.r1) (by rw [a1]; exact W.r8) (by rw [a2]; exact W.c1) (by rw [a2]; exact W.c8) (by rw [a3]; exact W.s8) (by rw [a4]; exact W.h1) (fun k hk => by rw [(hc k hk).1]; exact W.sea k hk) (fun k hk => by rw [(hc k hk).2.1]; exact W.fast k hk) (fun k hk ho => ?_) (fun k hk => by rw [(hc k hk).2.2.2.2]; exact W.chan k hk) (fun s h => ?_) (fun s t h1 h2 e => ?_) (fun s h => ?_) (fun s h => by rw [(hs s h).2.2.2.2.2.2.1]; exact W.done s h) (fun t h => by rw [(hw t h).2.1]; exact W.way t h) (fun t h => by rw [(hw t h).2.2]; exact W.force t h)
  · obtain ⟨b1, b2, b3, b4, b5⟩ := hc k hk
    rw [b1, b3, b4, b5]
    exact W.out k hk (fun q => ho ((ei k).mpr q))
  · rw [a3] at h
    rw [ep s (by omega), (hs s (by omega)).2.2.1, ei]
    exact W.place s h
  · rw [a3] at h1 h2
    rw [ep s (by omega), ep t (by omega)] at e
    exact W.dist s t h1 h2 e
  · rw [a3] at h
    rw [(hs s (by omega)).1]
    exact W.str s h
theorem Rg.ag {om : Nat → Option OR} {all : Nat → Int32} {g g' : GU} (R : Rg om all g) (W : Wf g) (A : AgG g g') : Rg om all g' := by
  obtain ⟨⟨a1, a2, a3, a4, a5, a6, a7⟩, hc, hs, hw⟩ := A
  have s8 := W.s8
  have ei : ∀ k, g'.ins k ↔ g.ins k := fun k => by unfold GU.ins; rw [a1, a2]
  have ep : ∀ s, s < 8 → g'.pl s = g.pl s := fun s h => by unfold GU.pl; rw [(hs s h).2.2.1]
  have lt : ∀ s, s < g'.size → s < g.size ∧ s < 8 := fun s h => by rw [a3] at h; exact ⟨h, by omega⟩
  exact Rg.mk' (k_rows := by rw [a1]; exact R.rows) (k_cols := by rw [a2]; exact R.cols) (k_size := by rw [a3]; exact R.size) (k_hour := by rw [a4]; exact R.hour) (k_laid := by rw [a5]; exact R.laid) (k_grown := by rw [a6]; exact R.grown) (k_melted := by rw [a7]; exact R.melted)
    (k_sea := fun k hk hi => by rw [(hc k hk).1]; exact R.sea k hk ((ei k).mp hi))
    (k_level := fun k hk => by rw [(hc k hk).2.2.1]; exact R.level k hk)
    (k_ridged := fun k hk => by rw [(hc k hk).2.2.2.1]; exact R.ridged k hk)
    (k_chan := fun k hk => by rw [(hc k hk).2.2.2.2]; exact R.chan k hk)
    (k_fast := fun k hk hi => by rw [(hc k hk).2.1]; exact R.fast k hk ((ei k).mp hi))
    (k_str := fun s h => by rw [(hs s (lt s h).2).1]; exact R.str s (lt s h).1)
    (k_fuel := fun s h => by rw [(hs s (lt s h).2).2.1]; exact R.fuel s (lt s h).1)
    (k_prow := fun s h => by rw [ep s (lt s h).2]; exact R.prow s (lt s h).1)
    (k_pcol := fun s h => by rw [ep s (lt s h).2]; exact R.pcol s (lt s h).1)
    (k_told := fun s h => by rw [(hs s (lt s h).2).2.2.2.1]; exact R.told s (lt s h).1)
    (k_moved := fun s h => by rw [(hs s (lt s h).2).2.2.2.2.1]; exact R.moved s (lt s h).1)
    (k_line := fun s h => by rw [(hs s (lt s h).2).2.2.2.2.2.1]; exact R.line s (lt s h).1)
    (k_done := fun s h => by rw [(hs s (lt s h).2).2.2.2.2.2.2.1]; exact R.done s (lt s h).1)
    (k_ord := fun s h => by rw [(hs s (lt s h).2).2.2.2.2.2.2.2]; exact R.ord s (lt s h).1)
    (k_cold := fun t h => by rw [(hw t h).1]; exact R.cold t h)
    (k_way := fun t h => by rw [(hw t h).2.1]; exact R.way t h)
    (k_force := fun t h => by rw [(hw t h).2.2]; exact R.force t h)
    (k_od := fun s h a e => R.od s h a (by rw [← (hs s h).2.2.2.2.2.2.2]; exact e))
theorem cp0 {f h : Nat → Int32} {n k : Nat} (hk : k < n) : va_cpy f h 0 0 n k = f k := by
  rw [pk_cpy_in (by omega) (by omega)]
  rw [Nat.sub_zero, Nat.zero_add]
theorem fits01 {x : Int32} (h : x = 0 ∨ x = 1) : fits .boolean (.int x) = true := by
  rcases h with h | h <;> subst h <;> rfl
theorem c_copyOrd {Q : Int32 → (Nat → Int32) → (Nat → Int32) → (Nat → Int32) → (Nat → Int32) → (Nat → Option Nat) → (Nat → Int32) → (Nat → Int32) → (Nat → Int32) → Prop} {om : Nat → Option OR} {x1 x2 : Int32} {ord : Nat → Option Nat} {d f l mv p st t d' f' l' mv' p' st' t' : Nat → Int32} (hod : ∀ s, s < 8 → ∀ a, ord s = some a → ∃ r, om a = some r) (h : ∀ o', (∀ s, s < 8 → o' s = ord s) → Q x2 d' f' l' mv' o' p' st' t') : ∀ (m i : Nat), i + m = 8 → ∀ o', (∀ s, s < i → o' s = ord s) → wX1_copy_115 Q om (m + 1) (nI i) x1 x2 d f l mv ord p st t d' f' l' mv' o' p' st' t' := by
  intro m
  induction m with
  | zero =>
    intro i hi o' ho
    have e : i = 8 := by omega
    subst e
    exact ip_T (by decide) (h o' ho)
  | succ m ih =>
    intro i hi o' ho
    have v := vp_in_nI (show i < 8 by omega) (by omega)
    refine ip_F (nI_ge (a := i) (b := 8) (by omega) (by omega)) ⟨v, ?_⟩
    rw [nI_clamp (by omega), nI_1]
    have up : ∀ z, ord i = z → ∀ s, s < i + 1 → va_up o' i z s = ord s := fun z hz s hs => by
      by_cases e : s = i
      · subst e; rw [show va_up o' s z s = z from if_pos rfl, hz]
      · rw [show va_up o' i z s = o' s from if_neg e]; exact ho s (by omega)
    refine ⟨fun e => ⟨v, ih (i + 1) (by omega) _ (up none e)⟩, fun a e => ?_⟩
    obtain ⟨r, er⟩ := hod i (by omega) a e
    exact ⟨r, er, v, ih (i + 1) (by omega) _ (up (some a) e)⟩
theorem c_copyAll {Q : Int32 → Int32 → Int32 → Int32 → Int32 → Int32 → Int32 → (Nat → Int32) → (Nat → Int32) → (Nat → Int32) → (Nat → Int32) → (Nat → Option Nat) → (Nat → Int32) → (Nat → Int32) → (Nat → Int32) → (Nat → Int32) → (Nat → Int32) → (Nat → Int32) → (Nat → Int32) → (Nat → Int32) → Prop} {om : Nat → Option OR} {g : GU} (W : Wf g) (hod : ∀ s, s < 8 → ∀ a, g.ord s = some a → ∃ r, om a = some r) {b1 b2 b3 b4 b5 b6 b7 : Int32} {c1 c2 c3 c4 c6 c7 c8 c9 c10 c11 c12 c13 : Nat → Int32} {c5 : Nat → Option Nat}
    (h : ∀ g', AgG g g' → g'.cold = g.cold → g'.way = g.way → g'.force = g.force → Q (nI g'.hour) (nI g'.size) (nI g'.rows) (nI g'.cols) g'.laid g'.grown g'.melted g'.done g'.fuel g'.line g'.moved g'.ord g'.place g'.str g'.told g'.chan g'.fast g'.level g'.ridged g'.sea) :
    wX2_copyAllButWeather Q om (nI g.hour) (nI g.size) (nI g.rows) (nI g.cols) g.laid g.grown g.melted b1 b2 b3 b4 b5 b6 b7 g.done g.fuel g.line g.moved g.ord g.place g.str g.told g.chan g.fast g.level g.ridged g.sea c1 c2 c3 c4 c5 c6 c7 c8 c9 c10 c11 c12 c13 := by
  unfold wX2_copyAllButWeather wX3_copy wX1_copy
  rw [show (0 : Int32).toNatClampNeg = 0 from rfl, show (64 : Int32).toNatClampNeg = 64 from rfl, show (8 : Int32).toNatClampNeg = 8 from rfl]
  refine ⟨fun i hi => fits01 (by rw [Nat.zero_add]; exact W.sea i hi), fun i hi => fits01 (by rw [Nat.zero_add]; exact W.fast i hi), fun i hi => fits01 (by rw [Nat.zero_add]; exact W.done i hi), 9, ?_⟩
  refine c_copyOrd hod (fun o' ho => ?_) 8 0 (by omega) c5 (fun s hs => absurd hs (by omega))
  exact h ((g.rows, g.cols, g.size, g.hour, g.laid, g.grown, g.melted, (va_cpy g.sea c13 0 0 64), (va_cpy g.fast c10 0 0 64), (va_cpy g.level c11 0 0 64), (va_cpy g.ridged c12 0 0 64), (va_cpy g.chan c9 0 0 64), (va_cpy g.str c7 0 0 8), (va_cpy g.fuel c2 0 0 8), (va_cpy g.place c6 0 0 8), (va_cpy g.told c8 0 0 8), (va_cpy g.moved c4 0 0 8), (va_cpy g.line c3 0 0 8), (va_cpy g.done c1 0 0 8), (o'), g.cold, g.way, g.force) : GU) ⟨⟨rfl, rfl, rfl, rfl, rfl, rfl, rfl⟩, fun k hk => ⟨cp0 hk, cp0 hk, cp0 hk, cp0 hk, cp0 hk⟩, fun s hs => ⟨cp0 hs, cp0 hs, cp0 hs, cp0 hs, cp0 hs, cp0 hs, cp0 hs, ho s hs⟩, fun t ht => ⟨rfl, rfl, rfl⟩⟩ rfl rfl rfl
/-- n hours on -/
def hrN (om : Nat → Option OR) (g : GU) : Nat → GU
  | 0 => g
  | n + 1 => (hrN om g n).hr om
theorem hrN_same {om : Nat → Option OR} {g : GU} : ∀ n, SameH g (hrN om g n) := by
  intro n
  induction n with
  | zero => exact SameH.rfl'
  | succ n ih => exact ih.trans hr_same
theorem hrN_hour {om : Nat → Option OR} {g : GU} : ∀ n, (hrN om g n).hour = g.hour + n := by
  intro n
  induction n with
  | zero => rfl
  | succ n ih =>
    show ((hrN om g n).hr om).hour = _
    show (hrN om g n).hour + 1 = _
    rw [ih]; omega
theorem Wf.hrN {om : Nat → Option OR} {g : GU} (W : Wf g) : ∀ n, g.hour + n ≤ 1000 → Wf (hrN om g n) := by
  intro n
  induction n with
  | zero => intro _; exact W
  | succ n ih => intro h; exact (ih (by omega)).hr (by rw [hrN_hour]; omega)
theorem i_1000 {x : Nat} (h : x ≤ 1000) : (1000 : Int32) - nI x = nI (1000 - x) := by
  rw [show (1000 : Int32) = nI 1000 from rfl, pk_sub h]
theorem c_canPass {Q : Int32 → Prop} {x : Int32} {hh : Nat} (h1000 : hh ≤ 1000) (h0 : (∀ j : Nat, 1 ≤ j → j ≤ 100 → x = nI j → 1000 < hh + j) → Q 0) (h1 : ∀ j : Nat, 1 ≤ j → j ≤ 100 → x = nI j → hh + j ≤ 1000 → Q 1) : wX10_canPass Q x (nI hh) := by
  unfold wX10_canPass
  rw [p_within]
  rcases inI_rng x 1 100 (by omega) (by omega) with e | ⟨j, a, b, e, f⟩
  · refine ip_T e (h0 (fun j a b e' => ?_))
    subst e'
    exfalso
    rw [inI_nz, nI_ltI (by omega) (by omega), nI_ltI (by omega) (by omega)] at e
    omega
  · refine ip_F (by rw [show (1 : Int32) = nI 1 from rfl, show (100 : Int32) = nI 100 from rfl, f]; decide) ?_
    subst e
    rw [i_1000 (by omega), nI_ltI (by omega) (by omega)]
    refine ip_split (fun c => h0 (fun j' a' b' e' => ?_)) (fun c => h1 j a b rfl (by omega))
    rw [nI_eq (by omega) (by omega)] at e'; omega
theorem m_mayGo {Q : Int32 → Prop} {om : Nat → Option OR} {all : Nat → Int32} {g : GU} (W : Wf g) (R : Rg om all g) {x : Int32} (h0 : (∀ j : Nat, 1 ≤ j → j ≤ 100 → x = nI j → 1000 < g.hour + j) → Q 0) (h1 : ∀ j : Nat, 1 ≤ j → j ≤ 100 → x = nI j → g.hour + j ≤ 1000 → Q 1) : wX11_mayGo Q x all := by
  have h1000 := W.h1
  unfold wX11_mayGo
  rw [p_isIn, show (3 : Int32).toNatClampNeg = 3 from rfl, R.hour]
  rcases inI_rng x 1 100 (by omega) (by omega) with e | ⟨j, a, b, e, f⟩
  · refine ip_T e (h0 (fun j a b e' => ?_))
    subst e'
    exfalso
    rw [inI_nz, nI_ltI (by omega) (by omega), nI_ltI (by omega) (by omega)] at e
    omega
  · refine ip_F (by rw [show (1 : Int32) = nI 1 from rfl, show (100 : Int32) = nI 100 from rfl, f]; decide) ⟨ip_in 3 _ rfl (by omega) (by omega), ?_⟩
    subst e
    rw [nI_add, show (1000 : Int32) = nI 1000 from rfl, nI_ltI (by omega) (by omega)]
    refine ip_split (fun c => h0 (fun j' a' b' e' => ?_)) (fun c => h1 j a b rfl (by omega))
    rw [nI_eq (by omega) (by omega)] at e'; omega
def GU.mix (g g' : GU) : GU := ((g.rows, g.cols, g.size, (g'.hour), g.laid, (g'.grown), (g'.melted), g.sea, g.fast, (g'.level), (g'.ridged), (g'.chan), g.str, (g'.fuel), (g'.place), (g'.told), (g'.moved), (g'.line), (g'.done), g.ord, g.cold, g.way, g.force) : GU)
theorem mix_eq {g g' : GU} (h : SameH g g') : g.mix g' = g' := by
  obtain ⟨h1, h2, h3, h4, h5, h6, h7, h8, h9, h10, h11⟩ := h
  unfold GU.mix
  rw [← h1, ← h2, ← h3, ← h4, ← h5, ← h6, ← h7, ← h8, ← h9, ← h10, ← h11]
theorem sim_hours {om : Nat → Option OR} {all co le pi ar : Nat → Int32} {w : WH} (W : WfW w) (R : RW om all w) {y1 : Int32} {K : Int32 → Int32 → Int32 → Int32 → (Nat → Int32) → (Nat → Int32) → (Nat → Int32) → (Nat → Int32) → (Nat → Int32) → (Nat → Int32) → (Nat → Int32) → (Nat → Int32) → (Nat → Int32) → (Nat → Int32) → Int32 → (Nat → Int32) → (Nat → Int32) → (Nat → Int32) → (Nat → Int32) → Prop}
    (hK : ∀ r hour grown melted done fuel line moved place told ar' chan level ridged all' co' le' pi', Ok om all (((((w.g.rows, w.g.cols, w.g.size, (hour), w.g.laid, (grown), (melted), w.g.sea, w.g.fast, (level), (ridged), (chan), w.g.str, (fuel), (place), (told), (moved), (line), (done), w.g.ord, w.g.cold, w.g.way, w.g.force) : GU)), w.tlen, w.tape, w.fault, w.place, w.psize, w.frm, w.takes, w.worth, w.ssize, w.settled) : WH) all' → K r (nI hour) grown melted done fuel line moved place told ar' chan level ridged r all' co' le' pi') :
    wX10_hours (fun r a b c d e f g h i j k l m => wX11_hours (fun r2 all' co' le' pi' => K r a b c d e f g h i j k l m r2 all' co' le' pi') y1 all co le pi) om y1 (nI w.g.hour) (nI w.g.size) (nI w.g.rows) (nI w.g.cols) w.g.grown w.g.melted w.g.done w.g.fuel w.g.line w.g.moved w.g.ord w.g.place w.g.str w.g.told ar w.g.chan w.g.fast w.g.level w.g.ridged w.g.sea w.g.cold w.g.force w.g.way := by
  have h1000 := W.g.h1
  unfold wX10_hours
  refine c_canPass h1000 (fun no => ip_T' rfl ?_) (fun j h1 h2 e hj => ip_F' (by decide) ⟨j + 1, ?_⟩)
  · unfold wX11_hours
    refine m_mayGo W.g R.g (fun _ => ip_T' rfl (hK _ w.g.hour _ _ _ _ _ _ _ _ _ _ _ _ _ _ _ _ (Ok.same W R))) (fun j a b e c => absurd (no j a b e) (by omega))
  subst e
  have mm : ∀ (r : Int32) (ar' : Nat → Int32), wX11_hours (fun r2 all' co' le' pi' => K (nI (w.g.hour + j)) (nI (w.g.hour + j)) (hrN om w.g j).grown (hrN om w.g j).melted (hrN om w.g j).done (hrN om w.g j).fuel (hrN om w.g j).line (hrN om w.g j).moved (hrN om w.g j).place (hrN om w.g j).told ar' (hrN om w.g j).chan (hrN om w.g j).level (hrN om w.g j).ridged r2 all' co' le' pi') (nI j) all co le pi := by
    intro r ar'
    unfold wX11_hours
    refine m_mayGo W.g R.g (fun no => absurd (no j h1 h2 rfl) (by omega)) (fun _ _ _ _ _ => ip_F' (by decide) ⟨j + 1, ?_⟩)
    have lp : ∀ (m i : Nat), i + m = j → ∀ all1 co1 le1 pi1, OkG om all (hrN om w.g i) all1 → wX11_hours_12 (fun r2 all' co' le' pi' => K (nI (w.g.hour + j)) (nI (w.g.hour + j)) (hrN om w.g j).grown (hrN om w.g j).melted (hrN om w.g j).done (hrN om w.g j).fuel (hrN om w.g j).line (hrN om w.g j).moved (hrN om w.g j).place (hrN om w.g j).told ar' (hrN om w.g j).chan (hrN om w.g j).level (hrN om w.g j).ridged r2 all' co' le' pi') (m + 1) (nI j) (nI i) all1 co1 le1 pi1 := by
      intro m
      induction m with
      | zero =>
        intro i hi all1 co1 le1 pi1 ok
        have e : i = j := by omega
        subst e
        refine ip_T (nI_le (Nat.le_refl _) (by omega)) ⟨ip_in 3 _ rfl (by omega) (by omega), ?_⟩
        rw [show (3 : Int32).toNatClampNeg = 3 from rfl, ok.2.1.hour, hrN_hour]
        refine hK _ (w.g.hour + i) _ _ _ _ _ _ _ _ _ _ _ _ _ _ _ _ ?_
        have key := OkG.ok W R ok
        rw [← mix_eq (hrN_same (om := om) (g := w.g) i)] at key
        unfold GU.mix at key
        rw [hrN_hour] at key
        exact key
      | succ m ih =>
        intro i hi all1 co1 le1 pi1 ok
        refine ip_F (nI_ge (by omega) (by omega)) (m_hour ok.1 ok.2.1 (by rw [hrN_hour]; omega) (fun all2 co2 le2 pi2 ok2 => ?_))
        rw [nI_1]
        exact ih (i + 1) (by omega) all2 co2 le2 pi2 (ok.trans ok2)
    exact lp j 0 (by omega) all co le pi (OkG.same W.g R.g)
  generalize eQ : (fun (r : Int32) (a : Int32) (b : Int32) (c : Int32) (d : Nat → Int32) (e : Nat → Int32) (f : Nat → Int32) (g : Nat → Int32) (h : Nat → Int32) (i : Nat → Int32) (x : Nat → Int32) (k : Nat → Int32) (l : Nat → Int32) (m : Nat → Int32) => wX11_hours (fun r2 all' co' le' pi' => K r a b c d e f g h i x k l m r2 all' co' le' pi') (nI j) all co le pi) = QQ
  have lp : ∀ (m i : Nat), i + m = j → ∀ ar1, wX10_hours_12 QQ om (m + 1) (nI j) (nI i) (nI (w.g.hour + i)) (nI w.g.size) (nI w.g.rows) (nI w.g.cols) (hrN om w.g i).grown (hrN om w.g i).melted (hrN om w.g i).done (hrN om w.g i).fuel (hrN om w.g i).line (hrN om w.g i).moved w.g.ord (hrN om w.g i).place w.g.str (hrN om w.g i).told ar1 (hrN om w.g i).chan w.g.fast (hrN om w.g i).level (hrN om w.g i).ridged w.g.sea w.g.cold w.g.force w.g.way := by
    intro m
    induction m with
    | zero =>
      intro i hi ar1
      have e : i = j := by omega
      subst e
      refine ip_T (nI_le (Nat.le_refl _) (by omega)) ?_
      rw [← eQ]
      exact mm 0 ar1
    | succ m ih =>
      intro i hi ar1
      refine ip_F (nI_ge (by omega) (by omega)) ?_
      rw [nI_1]
      obtain ⟨t1, t2, t3, t4, t5, t6, t7, t8, t9, t10, t11⟩ := hrN_same (om := om) (g := w.g) i
      have key := c_hour (Q := fun f_now_gulf_hour_2 f_now_gulf_ice_grown_3 f_now_gulf_ice_melted_4 r_now_gulf_fleet_done_5 r_now_gulf_fleet_fuel_6 r_now_gulf_fleet_line_7 r_now_gulf_fleet_moved_8 r_now_gulf_fleet_place_9 r_now_gulf_fleet_told_10 r_now_gulf_ice_arrived_11 r_now_gulf_ice_channel_12 r_now_gulf_ice_level_13 r_now_gulf_ice_ridged_14 => (wX10_hours_12 QQ om (m + 1) (nI j) (nI (i + 1)) f_now_gulf_hour_2 (nI w.g.size) (nI w.g.rows) (nI w.g.cols) f_now_gulf_ice_grown_3 f_now_gulf_ice_melted_4 r_now_gulf_fleet_done_5 r_now_gulf_fleet_fuel_6 r_now_gulf_fleet_line_7 r_now_gulf_fleet_moved_8 w.g.ord r_now_gulf_fleet_place_9 w.g.str r_now_gulf_fleet_told_10 r_now_gulf_ice_arrived_11 r_now_gulf_ice_channel_12 w.g.fast r_now_gulf_ice_level_13 r_now_gulf_ice_ridged_14 w.g.sea w.g.cold w.g.force w.g.way)) (om := om) (g := hrN om w.g i) (ar := ar1) (W.g.hrN i (by omega)) (R.g.txs.sameH (hrN_same i)) (by rw [hrN_hour]; omega) (fun ar' => by rw [hrN_hour]; exact ih (i + 1) (by omega) ar')
      rw [hrN_hour, t3, t1, t2, t8, t7, t6, t5, t9, t11, t10] at key
      exact key
  exact lp j 0 (by omega) ar
