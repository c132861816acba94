/-! PURE LEVEL 8: ship -/
theorem m_ship {om : Nat → Option OR} {all : Nat → Int32} {w : WH} (W : WfW w) (R : RW om all w) {y1 y2 : Int32} {a b : Nat} (ha : a < w.g.rows) (hb : b < w.g.cols) (h1 : inI y1 0 200 ≠ 0) (hs1 : w.g.sea (8 * a + b) = 1) (hf : w.g.shipIn (nI (8 * a + b)) = -1) (hsz : w.g.size < 8) {K' : Int32 → (Nat → Int32) → Prop}
    (h3 : ∀ all', Ok om all (((((w.g.rows, w.g.cols, (w.g.size + 1), w.g.hour, w.g.laid, w.g.grown, w.g.melted, w.g.sea, w.g.fast, w.g.level, w.g.ridged, w.g.chan, (upd w.g.str w.g.size y1), (upd w.g.fuel w.g.size y2), (upd w.g.place w.g.size (nI (8 * a + b))), (upd w.g.told w.g.size 0), (upd w.g.moved w.g.size 0), (upd w.g.line w.g.size (-1)), (upd w.g.done w.g.size 0), (va_up w.g.ord w.g.size none), w.g.cold, w.g.way, w.g.force) : GU)), w.tlen, w.tape, w.fault, w.place, w.psize, w.frm, w.takes, w.worth, w.ssize, w.settled) : WH) all' → K' (nI w.g.size) all') : wX11_ship_38 K' y1 y2 (nI a) (nI b) all := by
  obtain ⟨hk, hi⟩ := ins_of W.g ha hb
  have hc8 := W.g.c8
  have hr8 := W.g.r8
  have hno : ∀ s, s < w.g.size → w.g.pl s ≠ 8 * a + b := by
    intro s hs e
    rcases firstP_cases (fun s => w.g.place s = nI (8 * a + b)) w.g.size 0 with ⟨-, hn⟩ | ⟨j, -, hj, -, e', -⟩
    · exact hn s (by omega) (by omega) (by rw [(W.g.place s hs).1, e])
    · rw [GU.shipIn, e'] at hf
      exact nI_ne_m1 (by omega) hf
  unfold wX11_ship_38
  refine ip_isSea W.g R.g _ _ ?_
  rw [find_of W.g ha hb, nI_clamp (by omega), bI_T ⟨nI_m1 hk, hs1⟩]
  refine ip_F (by decide) (ip_shipAt W.g R.g ?_)
  rw [GU.shipAt_in W.g (by omega) (by omega), hf]
  have v2 := ip_in (x := 2) 2 53700 rfl (by omega) (by omega)
  refine ip_T (by decide) ⟨v2, v2, v2, 13, ?_⟩
  rw [show (2 : Int32).toNatClampNeg = 2 from rfl, R.g.size, nI_1]
  have fin : ∀ all', (all' 2 = nI (w.g.size + 1)) → (all' (360 + 12 * w.g.size) = y1) → (all' (360 + 12 * w.g.size + 1) = y2) → (all' (360 + 12 * w.g.size + 2) = nI a) → (all' (360 + 12 * w.g.size + 3) = nI b) → (all' (360 + 12 * w.g.size + 4) = 0) → (all' (360 + 12 * w.g.size + 5) = 0) → (all' (360 + 12 * w.g.size + 6) = -1) → (all' (360 + 12 * w.g.size + 7) = 0) → (all' (360 + 12 * w.g.size + 8) = 0) → (∀ i, i ≠ 2 → (i < 360 + 12 * w.g.size ∨ 360 + 12 * w.g.size + 12 ≤ i) → all' i = all i) → K' (nI w.g.size) all' := by
    intro all' e2 f0 f1 f2 f3 f4 f5 f6 f7 f8 un
    refine h3 all' (Ok.gulf W R ?_ ?_ (fun i hi => un i (by omega) (by omega)))
    · obtain ⟨j1, -, hj1, ej1, -⟩ := (inI_rng y1 0 200 (by omega) (by omega)).resolve_left h1
      have pln : ∀ s, (GU.pl ((w.g.rows, w.g.cols, (w.g.size + 1), w.g.hour, w.g.laid, w.g.grown, w.g.melted, w.g.sea, w.g.fast, w.g.level, w.g.ridged, w.g.chan, (upd w.g.str w.g.size y1), (upd w.g.fuel w.g.size y2), (upd w.g.place w.g.size (nI (8 * a + b))), (upd w.g.told w.g.size 0), (upd w.g.moved w.g.size 0), (upd w.g.line w.g.size (-1)), (upd w.g.done w.g.size 0), (va_up w.g.ord w.g.size none), w.g.cold, w.g.way, w.g.force) : GU) s) = if s = w.g.size then 8 * a + b else w.g.pl s := by
        intro s
        show (upd w.g.place w.g.size (nI (8 * a + b)) s).toNatClampNeg = _
        by_cases e : s = w.g.size
        · subst e; rw [pk_us, if_pos rfl, nI_clamp (by omega)]
        · rw [pk_un e, if_neg e]; rfl
      refine (Wf.mk' (k_r1 := W.g.r1) (k_r8 := W.g.r8) (k_c1 := W.g.c1) (k_c8 := W.g.c8) (k_s8 := hsz) (k_h1 := W.g.h1) (k_sea := W.g.sea) (k_fast := W.g.fast) (k_out := W.g.out) (k_chan := W.g.chan) (k_place := fun s hs => ?_) (k_dist := fun s t hs ht e => ?_) (k_str := fun s hs => ?_) (k_done := fun s hs => ?_) (k_way := W.g.way) (k_force := W.g.force))
      · rw [pln]
        show upd w.g.place w.g.size (nI (8 * a + b)) s = _ ∧ _
        by_cases e : s = w.g.size
        · subst e; rw [pk_us, if_pos rfl]; exact ⟨rfl, hk, hi⟩
        · rw [pk_un e, if_neg e]; exact W.g.place s (by have : s < w.g.size + 1 := hs; omega)
      · rw [pln, pln] at e
        have hs' : s < w.g.size + 1 := hs
        have ht' : t < w.g.size + 1 := ht
        by_cases e1 : s = w.g.size <;> by_cases e2 : t = w.g.size
        · omega
        · rw [if_pos e1, if_neg e2] at e; exact absurd e.symm (hno t (by omega))
        · rw [if_neg e1, if_pos e2] at e; exact absurd e (hno s (by omega))
        · rw [if_neg e1, if_neg e2] at e; exact W.g.dist s t (by omega) (by omega) e
      · show ∃ t : Nat, t ≤ 200 ∧ upd w.g.str w.g.size y1 s = nI t
        by_cases e : s = w.g.size
        · subst e; rw [pk_us]; exact ⟨j1, hj1, ej1⟩
        · rw [pk_un e]; exact W.g.str s (by have : s < w.g.size + 1 := hs; omega)
      · show upd w.g.done w.g.size 0 s = 0 ∨ upd w.g.done w.g.size 0 s = 1
        by_cases e : s = w.g.size
        · subst e; rw [pk_us]; exact Or.inl rfl
        · rw [pk_un e]; exact W.g.done s hs
    · have R0 := R.g
      have sh : ∀ (f : Nat → Int32) (y : Int32) (d : Nat), d < 12 → all' (360 + 12 * w.g.size + d) = y → (∀ s, s < w.g.size → all (360 + 12 * s + d) = f s) → ∀ s, s < w.g.size + 1 → all' (360 + 12 * s + d) = upd f w.g.size y s := by
        intro f y d hd h1 h2 s hs
        by_cases e : s = w.g.size
        · subst e; rw [pk_us]; exact h1
        · rw [pk_un e, un _ (by omega) (by omega)]; exact h2 s (by omega)
      have pls : ∀ s, s ≠ w.g.size → (upd w.g.place w.g.size (nI (8 * a + b)) s).toNatClampNeg = w.g.pl s := fun s e => by rw [pk_un e]; rfl
      have pls0 : (upd w.g.place w.g.size (nI (8 * a + b)) w.g.size).toNatClampNeg = 8 * a + b := by rw [pk_us, nI_clamp (by omega)]
      exact (Rg.mk'
        (k_rows := (un _ (by omega) (by omega)).trans R0.rows)
        (k_cols := (un _ (by omega) (by omega)).trans R0.cols)
        (k_size := e2)
        (k_hour := (un _ (by omega) (by omega)).trans R0.hour)
        (k_laid := (un _ (by omega) (by omega)).trans R0.laid)
        (k_grown := (un _ (by omega) (by omega)).trans R0.grown)
        (k_melted := (un _ (by omega) (by omega)).trans R0.melted)
        (k_sea := fun j hj hi => (un _ (by omega) (by omega)).trans (R0.sea j hj hi))
        (k_level := fun j hj => (un _ (by omega) (by omega)).trans (R0.level j hj))
        (k_ridged := fun j hj => (un _ (by omega) (by omega)).trans (R0.ridged j hj))
        (k_chan := fun j hj => (un _ (by omega) (by omega)).trans (R0.chan j hj))
        (k_fast := fun j hj hi => (un _ (by omega) (by omega)).trans (R0.fast j hj hi))
        (k_str := sh _ _ 0 (by omega) f0 R0.str)
        (k_fuel := sh _ _ 1 (by omega) f1 R0.fuel)
        (k_prow := fun s hs => by
          show all' (360 + 12 * s + 2) = nI ((upd w.g.place w.g.size (nI (8 * a + b)) s).toNatClampNeg / 8)
          by_cases e : s = w.g.size
          · subst e; rw [pls0, f2, show (8 * a + b) / 8 = a by omega]
          · rw [pls s e, un _ (by omega) (by have : s < w.g.size + 1 := hs; omega)]; exact R0.prow s (by have : s < w.g.size + 1 := hs; omega))
        (k_pcol := fun s hs => by
          show all' (360 + 12 * s + 3) = nI ((upd w.g.place w.g.size (nI (8 * a + b)) s).toNatClampNeg % 8)
          by_cases e : s = w.g.size
          · subst e; rw [pls0, f3, show (8 * a + b) % 8 = b by omega]
          · rw [pls s e, un _ (by omega) (by have : s < w.g.size + 1 := hs; omega)]; exact R0.pcol s (by have : s < w.g.size + 1 := hs; omega))
        (k_told := sh _ _ 4 (by omega) f4 R0.told)
        (k_moved := sh _ _ 5 (by omega) f5 R0.moved)
        (k_line := sh _ _ 6 (by omega) f6 R0.line)
        (k_done := sh _ _ 7 (by omega) f7 R0.done)
        (k_ord := fun s hs => by
          show OrdR om (va_up w.g.ord w.g.size none s) _ _ _
          have hs' : s < w.g.size + 1 := hs
          by_cases e : s = w.g.size
          · subst e
            rw [show va_up w.g.ord w.g.size none w.g.size = none from if_pos rfl]
            exact f8
          · rw [show va_up w.g.ord w.g.size none s = w.g.ord s from if_neg e, un _ (by omega) (by omega)]
            exact (R0.ord s (by omega)).congr (fun k hk => un _ (by omega) (by omega)) (fun k hk => un _ (by omega) (by omega)))
        (k_cold := fun j hj => (un _ (by omega) (by omega)).trans (R0.cold j hj))
        (k_way := fun j hj => (un _ (by omega) (by omega)).trans (R0.way j hj))
        (k_force := fun j hj => (un _ (by omega) (by omega)).trans (R0.force j hj))
        (k_od := fun s hs a' ha' => by
          by_cases e : s = w.g.size
          · subst e
            have : va_up w.g.ord w.g.size none w.g.size = some a' := ha'
            rw [show va_up w.g.ord w.g.size none w.g.size = none from if_pos rfl] at this
            exact absurd this (by simp)
          · have : va_up w.g.ord w.g.size none s = some a' := ha'
            rw [show va_up w.g.ord w.g.size none s = w.g.ord s from if_neg e] at this
            exact R0.od s hs a' this))
  clear h3
  refine ip_F (by decide) (ip_ships _ 0 hsz (by omega) ?_)
  refine ip_F (by decide) (ip_ships _ 1 hsz (by omega) ?_)
  refine ip_F (by decide) (ip_ships _ 2 hsz (by omega) ?_)
  refine ip_F (by decide) (ip_ships _ 3 hsz (by omega) ?_)
  refine ip_F (by decide) (ip_ships _ 4 hsz (by omega) ?_)
  refine ip_F (by decide) (ip_ships _ 5 hsz (by omega) ?_)
  refine ip_F (by decide) (ip_ships _ 6 hsz (by omega) ?_)
  refine ip_F (by decide) (ip_ships _ 7 hsz (by omega) ?_)
  refine ip_F (by decide) (ip_ships _ 8 hsz (by omega) ?_)
  refine ip_F (by decide) (ip_ships _ 9 hsz (by omega) ?_)
  refine ip_F (by decide) (ip_ships _ 10 hsz (by omega) ?_)
  refine ip_F (by decide) (ip_ships _ 11 hsz (by omega) ?_)
  refine ip_T (by decide) (ip_ships _ 0 hsz (by omega) (ip_ships _ 1 hsz (by omega) (ip_ships _ 2 hsz (by omega) (ip_ships _ 3 hsz (by omega) (ip_ships _ 6 hsz (by omega) ?_)))))
  refine fin _ ?_ ?_ ?_ ?_ ?_ ?_ ?_ ?_ ?_ ?_ ?_
  all_goals (try intro i h1 h2)
  all_goals (repeat first | exact pk_us | rw [pk_un (by omega)])
theorem sim_ship {om : Nat → Option OR} {all : Nat → Int32} {w : WH} (W : WfW w) (R : RW om all w) {y1 y2 y3 y4 : Int32} {K : Int32 → Int32 → (Nat → Int32) → (Nat → Int32) → (Nat → Int32) → (Nat → Int32) → (Nat → Option Nat) → (Nat → Int32) → (Nat → Int32) → (Nat → Int32) → Int32 → (Nat → Int32) → Prop}
    (hK : ∀ r n done fuel line moved ord place str told all', Ok om all (((((w.g.rows, w.g.cols, (n), w.g.hour, w.g.laid, w.g.grown, w.g.melted, w.g.sea, w.g.fast, w.g.level, w.g.ridged, w.g.chan, (str), (fuel), (place), (told), (moved), (line), (done), (ord), w.g.cold, w.g.way, w.g.force) : GU)), w.tlen, w.tape, w.fault, w.place, w.psize, w.frm, w.takes, w.worth, w.ssize, w.settled) : WH) all' → K r (nI n) done fuel line moved ord place str told r all') :
    wX10_ship (fun r n done fuel line moved ord place str told => wX11_ship (fun r2 all' => K r n done fuel line moved ord place str told r2 all') y1 y2 y3 y4 all) y1 y2 y3 y4 (nI w.g.size) (nI w.g.rows) (nI w.g.cols) w.g.done w.g.fuel w.g.line w.g.moved w.g.ord w.g.place w.g.str w.g.told w.g.sea := by
  have hs8 := W.g.s8
  have hc8 := W.g.c8
  have hr8 := W.g.r8
  have v2 := ip_in (x := 2) 2 53700 rfl (by omega) (by omega)
  have hno : ∀ r, K r (nI w.g.size) w.g.done w.g.fuel w.g.line w.g.moved w.g.ord w.g.place w.g.str w.g.told r all := fun r => hK _ w.g.size _ _ _ _ _ _ _ _ _ (Ok.same W R)
  have cls : inI y1 0 200 ≠ 0 → (y2 = -1 ∨ inI y2 1 5000 ≠ 0) → wX10_ship_29 (fun r n done fuel line moved ord place str told => wX11_ship (fun r2 all' => K r n done fuel line moved ord place str told r2 all') y1 y2 y3 y4 all) y1 y2 y3 y4 (nI w.g.size) (nI w.g.rows) (nI w.g.cols) w.g.done w.g.fuel w.g.line w.g.moved w.g.ord w.g.place w.g.str w.g.told w.g.sea := by
    intro c1 c2
    have out : ∀ Q : Int32 → (Nat → Int32) → Prop, Q (-1) all → wX11_ship_38 Q y1 y2 y3 y4 all → wX11_ship Q y1 y2 y3 y4 all := fun Q h h38 => by
      unfold wX11_ship
      simp only [p_isIn]
      exact ⟨v2, ip_split (fun _ => h) (fun _ => ip_F c1 (ip_split (fun _ => h38) (fun n => ip_F (c2.resolve_left n) h38)))⟩
    have sea0 : ∀ Q : Int32 → (Nat → Int32) → Prop, Q (-1) all → (w.g.find y3 y4 = -1 ∨ w.g.sea (w.g.find y3 y4).toNatClampNeg = 0) → wX11_ship_38 Q y1 y2 y3 y4 all := fun Q h c => by
      unfold wX11_ship_38
      refine ip_isSea W.g R.g _ _ ?_
      rw [bI_F (fun q => by
        rcases c with c | c
        · exact q.1 c
        · rw [c] at q; exact absurd q.2 (by decide))]
      exact ip_T rfl h
    unfold wX10_ship_29
    refine ip_find W.g _ _ (fun f => ip_T rfl (out _ (hno _) (sea0 _ (hno _) (Or.inl f)))) (fun a b ha hb hk hi er ec f => ip_F (nI_m1 hk) ⟨vp_in_nI hk (by omega), ?_⟩)
    rw [nI_clamp (by omega)]
    refine ip_split (fun z => out _ (hno _) (sea0 _ (hno _) (Or.inr (by rw [f, nI_clamp (by omega)]; exact z)))) (fun z => ip_shipIn W.g (ip_split (fun d => ?_) (fun d => ?_)))
    · have s1 := (W.g.sea _ hk).resolve_left z
      unfold wX1_join
      refine ip_split (fun c4 => ?_) (fun c4 => ?_)
      · rw [show (8 : Int32) = nI 8 from rfl, nI_ltI (by omega) (by omega)] at c4
        have v := vp_in_nI c4 (by omega)
        refine ⟨v, v, v, v, v, v, v, v, ?_⟩
        rw [nI_1, nI_pred, nI_clamp (by omega), ip_nb (Or.inl rfl)]
        unfold wX11_ship
        simp only [p_isIn]
        rw [show (2 : Int32).toNatClampNeg = 2 from rfl, R.g.size]
        have fin : ∀ (Q : Int32 → (Nat → Int32) → Prop), (∀ all', Ok om all (((((w.g.rows, w.g.cols, (w.g.size + 1), w.g.hour, w.g.laid, w.g.grown, w.g.melted, w.g.sea, w.g.fast, w.g.level, w.g.ridged, w.g.chan, (upd w.g.str w.g.size y1), (upd w.g.fuel w.g.size y2), (upd w.g.place w.g.size (nI (8 * a + b))), (upd w.g.told w.g.size 0), (upd w.g.moved w.g.size 0), (upd w.g.line w.g.size (-1)), (upd w.g.done w.g.size 0), (va_up w.g.ord w.g.size none), w.g.cold, w.g.way, w.g.force) : GU)), w.tlen, w.tape, w.fault, w.place, w.psize, w.frm, w.takes, w.worth, w.ssize, w.settled) : WH) all' → Q (nI w.g.size) all') → wX11_ship_38 Q y1 y2 y3 y4 all := fun Q h => by
          subst er; subst ec
          exact m_ship W R ha hb c1 s1 d c4 h
        have fin' := fin _ (fun all' ok => hK (nI w.g.size) (w.g.size + 1) _ _ _ _ _ _ _ _ all' ok)
        exact ⟨v2, ip_F (by rw [show (8 : Int32) = nI 8 from rfl, nI_eq (by omega) (by omega)]; omega) (ip_F c1 (ip_split (fun _ => fin') (fun n => ip_F (c2.resolve_left n) fin')))⟩
      · rw [show (8 : Int32) = nI 8 from rfl, nI_ltI (by omega) (by omega)] at c4
        unfold wX11_ship
        rw [show (2 : Int32).toNatClampNeg = 2 from rfl, R.g.size]
        exact ⟨v2, ip_T (by rw [show (8 : Int32) = nI 8 from rfl, show w.g.size = 8 by omega]) (hno _)⟩
    · refine out _ (hno _) ?_
      subst er; subst ec
      unfold wX11_ship_38
      refine ip_isSea W.g R.g _ _ ?_
      rw [f, nI_clamp (by omega), bI_T ⟨nI_m1 hk, (W.g.sea _ hk).resolve_left z⟩]
      refine ip_F (by decide) (ip_shipAt W.g R.g ?_)
      rw [GU.shipAt_in W.g (by omega) (by omega)]
      exact ip_F (fun n => d ((firstP_neg _ (by omega)).mp n)) (hno _)
  have no1 : ∀ Q : Int32 → (Nat → Int32) → Prop, Q (-1) all → (inI y1 0 200 = 0 ∨ ¬ (y2 = -1) ∧ inI y2 1 5000 = 0) → wX11_ship Q y1 y2 y3 y4 all := fun Q h c => by
    unfold wX11_ship
    simp only [p_isIn]
    refine ⟨v2, ip_split (fun _ => h) (fun _ => ip_split (fun _ => h) (fun n => ?_))⟩
    have c := c.resolve_left n
    exact ip_F c.1 (ip_T c.2 h)
  unfold wX10_ship
  simp only [p_within]
  refine ip_split (fun c => no1 _ (hno _) (Or.inl c)) (fun c => ip_split (fun d => cls c (Or.inl d)) (fun d => ip_split' (fun e => no1 _ (hno _) (Or.inr ⟨d, e⟩)) (fun e => cls c (Or.inr e))))
