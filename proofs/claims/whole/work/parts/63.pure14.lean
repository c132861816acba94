/-! PURE LEVEL 13: a ship's act -/
def OkG (om : Nat → Option OR) (all : Nat → Int32) (g : GU) (all' : Nat → Int32) : Prop := Wf g ∧ Rg om all' g ∧ ∀ i, (7 ≤ i ∧ i < 40 ∨ 10340 ≤ i) → all' i = all i
theorem OkG.same {om : Nat → Option OR} {all : Nat → Int32} {g : GU} (W : Wf g) (R : Rg om all g) : OkG om all g all := ⟨W, R, fun _ _ => rfl⟩
theorem OkG.trans {om : Nat → Option OR} {all all1 all2 : Nat → Int32} {g1 g2 : GU} (h : OkG om all g1 all1) (k : OkG om all1 g2 all2) : OkG om all g2 all2 := ⟨k.1, k.2.1, fun i hi => (k.2.2 i hi).trans (h.2.2 i hi)⟩
theorem OkG.ok {om : Nat → Option OR} {all all' : Nat → Int32} {w : WH} {g' : GU} (W : WfW w) (R : RW om all w) (h : OkG om all g' all') : Ok om all (((g'), w.tlen, w.tape, w.fault, w.place, w.psize, w.frm, w.takes, w.worth, w.ssize, w.settled) : WH) all' := Ok.gulf W R h.1 h.2.1 h.2.2
theorem Rg.setPlace {om : Nat → Option OR} {all : Nat → Int32} {g : GU} (R : Rg om all g) (k q : Nat) (hs : g.size ≤ 8) (hk : k < 8) (hq : q < 64) : Rg om (upd (upd all (360 + 12 * k + 2) (nI (q / 8))) (360 + 12 * k + 3) (nI (q % 8))) ((g.rows, g.cols, g.size, g.hour, g.laid, g.grown, g.melted, g.sea, g.fast, g.level, g.ridged, g.chan, g.str, g.fuel, (upd g.place k (nI q)), g.told, g.moved, g.line, g.done, g.ord, g.cold, g.way, g.force) : GU) := by
  have un : ∀ i, i ≠ 360 + 12 * k + 2 → i ≠ 360 + 12 * k + 3 → upd (upd all (360 + 12 * k + 2) (nI (q / 8))) (360 + 12 * k + 3) (nI (q % 8)) i = all i := fun i h1 h2 => by rw [pk_un h2, pk_un h1]
  have pls : ∀ s, GU.pl ((g.rows, g.cols, g.size, g.hour, g.laid, g.grown, g.melted, g.sea, g.fast, g.level, g.ridged, g.chan, g.str, g.fuel, (upd g.place k (nI q)), g.told, g.moved, g.line, g.done, g.ord, g.cold, g.way, g.force) : GU) s = if s = k then q else g.pl s := fun s => by
    show (upd g.place k (nI q) s).toNatClampNeg = _
    by_cases e : s = k
    · subst e; rw [pk_us, if_pos rfl, nI_clamp (by omega)]
    · rw [pk_un e, if_neg e]; rfl
  exact (Rg.mk'
    (k_rows := (un _ (by omega) (by omega)).trans R.rows)
    (k_cols := (un _ (by omega) (by omega)).trans R.cols)
    (k_size := (un _ (by omega) (by omega)).trans R.size)
    (k_hour := (un _ (by omega) (by omega)).trans R.hour)
    (k_laid := (un _ (by omega) (by omega)).trans R.laid)
    (k_grown := (un _ (by omega) (by omega)).trans R.grown)
    (k_melted := (un _ (by omega) (by omega)).trans R.melted)
    (k_sea := fun j hj hi => (un _ (by omega) (by omega)).trans (R.sea j hj hi))
    (k_level := fun j hj => (un _ (by omega) (by omega)).trans (R.level j hj))
    (k_ridged := fun j hj => (un _ (by omega) (by omega)).trans (R.ridged j hj))
    (k_chan := fun j hj => (un _ (by omega) (by omega)).trans (R.chan j hj))
    (k_fast := fun j hj hi => (un _ (by omega) (by omega)).trans (R.fast j hj hi))
    (k_str := fun j hj => (un _ (by omega) (by omega)).trans (R.str j hj))
    (k_fuel := fun j hj => (un _ (by omega) (by omega)).trans (R.fuel j hj))
    (k_prow := fun j hj => by
      rw [pls]
      by_cases e : j = k
      · subst e; rw [pk_un (by omega), pk_us, if_pos rfl]
      · rw [un _ (by omega) (by omega), if_neg e]; exact R.prow j hj)
    (k_pcol := fun j hj => by
      rw [pls]
      by_cases e : j = k
      · subst e; rw [pk_us, if_pos rfl]
      · rw [un _ (by omega) (by omega), if_neg e]; exact R.pcol j hj)
    (k_told := fun j hj => (un _ (by omega) (by omega)).trans (R.told j hj))
    (k_moved := fun j hj => (un _ (by omega) (by omega)).trans (R.moved j hj))
    (k_line := fun j hj => (un _ (by omega) (by omega)).trans (R.line j hj))
    (k_done := fun j hj => (un _ (by omega) (by omega)).trans (R.done j hj))
    (k_ord := fun j (hj : j < g.size) => by
      rw [un _ (by omega) (by omega)]
      exact (R.ord j hj).congr (fun k hk => un _ (by omega) (by omega)) (fun k hk => un _ (by omega) (by omega)))
    (k_cold := fun j hj => (un _ (by omega) (by omega)).trans (R.cold j hj))
    (k_way := fun j hj => (un _ (by omega) (by omega)).trans (R.way j hj))
    (k_force := fun j hj => (un _ (by omega) (by omega)).trans (R.force j hj))
    (k_od := R.od))
abbrev GU.cutC (g : GU) (s : Nat) : Prop := ¬ g.fuel s < 5 ∧ g.chan (g.pl s) = -1
def GU.cutG (g : GU) (s : Nat) : GU := if g.cutC s then ((g.rows, g.cols, g.size, g.hour, g.laid, g.grown, g.melted, g.sea, g.fast, g.level, g.ridged, (upd g.chan (g.pl s) (nI g.hour)), g.str, (upd g.fuel s (g.fuel s - 5)), g.place, g.told, g.moved, g.line, g.done, g.ord, g.cold, g.way, g.force) : GU) else g
theorem c_cut {Q : Int32 → (Nat → Int32) → (Nat → Int32) → Prop} {g : GU} (W : Wf g) {s : Nat} (hs : s < g.size) (h : Q (bI (g.cutC s)) (g.cutG s).fuel (g.cutG s).chan) : wX2_cut Q (nI s) (nI g.hour) g.fuel g.place g.chan := by
  have h8 := W.s8
  obtain ⟨es, hp, hi⟩ := W.place s hs
  have vs := vp_in_nI (show s < 8 by omega) (by omega)
  have vp := vp_in_nI hp (N := 64) (by omega)
  unfold wX2_cut
  rw [nI_clamp (by omega), es, nI_clamp (by omega)]
  unfold GU.cutG at h
  refine ⟨vs, vs, ip_split (fun c => ?_) (fun c => ⟨vp, ip_split (fun d => ⟨vp, vs, vs, ?_⟩) (fun d => ?_)⟩)⟩
  · rw [bI_F (fun q => q.1 c), if_neg (fun q => q.1 c)] at h; exact h
  · rw [bI_T ⟨c, d⟩, if_pos ⟨c, d⟩] at h; exact h
  · rw [bI_F (fun q => d q.2), if_neg (fun q => d q.2)] at h; exact h
theorem m_cut {om : Nat → Option OR} {Q : Int32 → (Nat → Int32) → Prop} {all : Nat → Int32} {g : GU} (W : Wf g) (R : Rg om all g) {s : Nat} (hs : s < g.size) (h : ∀ all', OkG om all (g.cutG s) all' → Q (bI (g.cutC s)) all') : wX11_cuts Q (nI s) all := by
  have h8 := W.s8
  obtain ⟨es, hp, hi⟩ := W.place s hs
  unfold GU.cutG at h
  unfold wX11_cuts
  refine ip_its s 2 (by omega) (by omega) (ip_its s 3 (by omega) (by omega) (ip_its s 1 (by omega) (by omega) ?_))
  rw [R.prow s hs, R.pcol s hs, R.fuel s hs]
  have e8 : 8 * (g.pl s / 8) + g.pl s % 8 = g.pl s := by omega
  refine ip_split (fun c => ?_) (fun c => ip_of _ _ 3 (by omega) (by omega) (by omega) ?_)
  · have n : ¬ g.cutC s := fun q => q.1 c
    rw [bI_F n, if_neg n] at h
    exact h all (OkG.same W R)
  · rw [e8, R.chan _ hp]
    rcases W.chan _ hp with e | ⟨t, ht, e⟩
    · have y : g.cutC s := ⟨c, e⟩
      rw [bI_T y, if_pos y] at h
      rw [e]
      refine ip_T (by decide) ⟨ip_in 3 _ rfl (by omega) (by omega), ip_sets _ _ 3 (by omega) (by omega) (by omega) (ip_its s 1 (by omega) (by omega) (ip_ships s 1 (by omega) (by omega) ?_))⟩
      rw [show (3 : Int32).toNatClampNeg = 3 from rfl, R.hour, e8, pk_un (by omega), R.fuel s hs]
      refine h _ ⟨(Wf.mk' (k_r1 := W.r1) (k_r8 := W.r8) (k_c1 := W.c1) (k_c8 := W.c8) (k_s8 := W.s8) (k_h1 := W.h1) (k_sea := W.sea) (k_fast := W.fast) (k_out := fun k hk ho => ?_) (k_chan := fun k hk => ?_) (k_place := W.place) (k_dist := W.dist) (k_str := W.str) (k_done := W.done) (k_way := W.way) (k_force := W.force)), (R.setChan (g.pl s) (nI g.hour) hp).setFuel s (g.fuel s - 5) h8 (by omega), fun i hi => by rw [pk_un (by omega), pk_un (by omega)]⟩
      · have ne : k ≠ g.pl s := fun q => ho (by rw [q]; exact hi)
        show g.sea k = 0 ∧ g.level k = 0 ∧ g.ridged k = 0 ∧ upd g.chan (g.pl s) (nI g.hour) k = -1
        rw [pk_un ne]
        exact W.out k hk ho
      · show upd g.chan (g.pl s) (nI g.hour) k = -1 ∨ ∃ t : Nat, t ≤ 1000 ∧ upd g.chan (g.pl s) (nI g.hour) k = nI t
        by_cases q : k = g.pl s
        · subst q; rw [pk_us]; exact Or.inr ⟨g.hour, W.h1, rfl⟩
        · rw [pk_un q]; exact W.chan k hk
    · have n : ¬ g.cutC s := fun q => by
        have := q.2
        rw [e] at this
        exact nI_ne_m1 (by omega) this
      rw [bI_F n, if_neg n] at h
      rw [e]
      exact ip_F (nI_pos (by omega)) (h all (OkG.same W R))
abbrev GU.mvC (g : GU) (s w : Nat) : Prop := ¬ g.nxt (g.pl s) w = -1 ∧ ¬ g.sea (g.nxt (g.pl s) w).toNatClampNeg = 0 ∧ g.shipIn (g.nxt (g.pl s) w) = -1 ∧ ¬ g.held s ∧ ¬ g.str s < g.bur (g.nxt (g.pl s) w).toNatClampNeg ∧ (g.fuel s = -1 ∨ 1 + g.bur (g.nxt (g.pl s) w).toNatClampNeg / 10 ≤ g.fuel s)
def GU.mvG (g : GU) (s w : Nat) : GU := if g.mvC s w then ((g.rows, g.cols, g.size, g.hour, g.laid, g.grown, g.melted, g.sea, g.fast, g.level, g.ridged, g.chan, g.str, ((if g.fuel s = -1 then g.fuel else upd g.fuel s (g.fuel s - (1 + g.bur (g.nxt (g.pl s) w).toNatClampNeg / 10)))), (upd g.place s (g.nxt (g.pl s) w)), g.told, (upd g.moved s (g.moved s + 1)), g.line, g.done, g.ord, g.cold, g.way, g.force) : GU) else g
theorem c_move {Q : Int32 → (Nat → Int32) → (Nat → Int32) → (Nat → Int32) → Prop} {g : GU} (W : Wf g) {s w : Nat} (hs : s < g.size) (hw : w < 4) (h : Q (bI (g.mvC s w)) (g.mvG s w).fuel (g.mvG s w).moved (g.mvG s w).place) : wX2_move Q (nI s) (nI w) (nI g.size) (nI g.rows) (nI g.cols) g.fuel g.moved g.place g.str g.chan g.level g.ridged g.sea := by
  have h8 := W.s8
  obtain ⟨es, hp, hi⟩ := W.place s hs
  have vs := vp_in_nI (show s < 8 by omega) (by omega)
  unfold wX2_move
  have no : ¬ g.mvC s w → Q 0 g.fuel g.moved g.place := fun n => by
    unfold GU.mvG at h; rw [bI_F n, if_neg n] at h; exact h
  rw [nI_clamp (by omega)]
  have h' : ∀ Q', wX3_next Q' (nI (g.pl s)) (nI w) (nI g.rows) (nI g.cols) → wX3_next Q' (g.place s) (nI w) (nI g.rows) (nI g.cols) := fun Q' q => by rw [es]; exact q
  refine ⟨vs, h' _ (ip_next W hp hw ?_)⟩
  rcases nxt_cases W hp hw with ⟨f, -⟩ | ⟨a, b, ha, hb, hk, hin, -, -, -, f⟩
  · exact ip_T f (no (fun q => q.1 f))
  · have nc : (g.nxt (g.pl s) w).toNatClampNeg = 8 * a + b := by rw [f, nI_clamp (by omega)]
    refine ip_F (by rw [f]; exact nI_m1 hk) ⟨by rw [f]; exact vp_in_nI hk (by omega), ip_split (fun c => no (fun q => q.2.1 c)) (fun c => ip_shipIn W (ip_split' (fun d => ip_held W hs ?_) (fun d => no (fun q => d q.2.2.1))))⟩
    by_cases he : g.held s
    · rw [bI_T he]; exact ip_F (by decide) (no (fun q => q.2.2.2.1 he))
    · rw [bI_F he]
      refine ip_T rfl ?_
      have pb : ∀ Q' : Int32 → Prop, Q' (g.bur (8 * a + b)) → wX3_burden Q' (g.nxt (g.pl s) w) g.chan g.level g.ridged := fun Q' q => by rw [f]; exact p_burden hk q
      refine pb _ ⟨vs, ?_⟩
      rw [nI_clamp (by omega)]
      have fin : g.mvC s w → ∀ z : Int32, (z = 0 ↔ g.fuel s = -1) → wX2_move_121 Q (nI s) (g.nxt (g.pl s) w) (1 + g.bur (8 * a + b) / 10) z (nI g.size) (nI g.rows) (nI g.cols) g.fuel g.moved g.place g.str g.chan g.level g.ridged g.sea := by
        intro y z hz
        unfold GU.mvG at h
        rw [bI_T y, if_pos y] at h
        rw [nc] at h
        unfold wX2_move_121 wX2_move_140
        rw [nI_clamp (by omega)]
        refine ip_split (fun z0 => ⟨vs, vs, vs, ?_⟩) (fun z1 => ⟨vs, vs, vs, vs, vs, ?_⟩)
        · rw [if_pos (hz.mp z0)] at h; exact h
        · rw [if_neg (fun q => z1 (hz.mpr q))] at h; exact h
      refine ip_split (fun x => ⟨vs, ip_split (fun d => no (fun q => q.2.2.2.2.1 (by rw [nc]; exact d))) (fun d => ip_T rfl (fin ⟨by rw [f]; exact nI_m1 hk, c, by assumption, he, by rw [nc]; exact d, Or.inl x⟩ 0 ⟨fun _ => x, fun _ => rfl⟩))⟩) (fun x => ⟨vs, ip_split (fun d => no (fun q => q.2.2.2.2.1 (by rw [nc]; exact d))) (fun d => ip_F (by decide) ⟨vs, ip_split (fun u => fin ⟨by rw [f]; exact nI_m1 hk, c, by assumption, he, by rw [nc]; exact d, Or.inr (by rw [nc]; exact u)⟩ 1 ⟨fun v => absurd v (by decide), fun v => absurd v x⟩) (fun u => no (fun q => by
        rcases q.2.2.2.2.2 with v | v
        · exact x v
        · rw [nc] at v; exact u v))⟩)⟩)
theorem Wf.move {g : GU} (W : Wf g) {s q : Nat} {fu mo : Nat → Int32} (hs : s < g.size) (hq : q < 64) (hi : g.ins q) (hf : g.shipIn (nI q) = -1) : Wf ((g.rows, g.cols, g.size, g.hour, g.laid, g.grown, g.melted, g.sea, g.fast, g.level, g.ridged, g.chan, g.str, (fu), (upd g.place s (nI q)), g.told, (mo), g.line, g.done, g.ord, g.cold, g.way, g.force) : GU) := by
  have h8 := W.s8
  have pls : ∀ t, GU.pl ((g.rows, g.cols, g.size, g.hour, g.laid, g.grown, g.melted, g.sea, g.fast, g.level, g.ridged, g.chan, g.str, (fu), (upd g.place s (nI q)), g.told, (mo), g.line, g.done, g.ord, g.cold, g.way, g.force) : GU) t = if t = s then q else g.pl t := fun t => by
    show (upd g.place s (nI q) t).toNatClampNeg = _
    by_cases e : t = s
    · subst e; rw [pk_us, if_pos rfl, nI_clamp (by omega)]
    · rw [pk_un e, if_neg e]; rfl
  have hno : ∀ t, t < g.size → g.pl t ≠ q := by
    intro t ht e
    rcases firstP_cases (fun s => g.place s = nI q) g.size 0 with ⟨-, hn⟩ | ⟨j, -, hj, -, e', -⟩
    · exact hn t (by omega) (by omega) (by rw [(W.place t ht).1, e])
    · rw [GU.shipIn, e'] at hf
      exact nI_ne_m1 (by omega) hf
  refine (Wf.mk' (k_r1 := W.r1) (k_r8 := W.r8) (k_c1 := W.c1) (k_c8 := W.c8) (k_s8 := W.s8) (k_h1 := W.h1) (k_sea := W.sea) (k_fast := W.fast) (k_out := W.out) (k_chan := W.chan) (k_place := fun t ht => ?_) (k_dist := fun t u ht hu e => ?_) (k_str := W.str) (k_done := W.done) (k_way := W.way) (k_force := W.force))
  · rw [pls]
    show upd g.place s (nI q) t = _ ∧ _
    by_cases e : t = s
    · subst e; rw [pk_us, if_pos rfl]; exact ⟨rfl, hq, hi⟩
    · rw [pk_un e, if_neg e]; exact W.place t ht
  · rw [pls, pls] at e
    by_cases e1 : t = s <;> by_cases e2 : u = s
    · rw [e1, e2]
    · rw [if_pos e1, if_neg e2] at e; exact absurd e.symm (hno u hu)
    · rw [if_neg e1, if_pos e2] at e; exact absurd e (hno t ht)
    · rw [if_neg e1, if_neg e2] at e; exact W.dist t u ht hu e
theorem nI_lt' {a b : Nat} (ha : a < 2 ^ 31) (hb : b < 2 ^ 31) : nI a < nI b ↔ a < b := nI_ltI ha hb
theorem m_move {om : Nat → Option OR} {Q : Int32 → (Nat → Int32) → Prop} {all : Nat → Int32} {g : GU} (W : Wf g) (R : Rg om all g) {s w : Nat} (hs : s < g.size) (hw : w < 4) (h : ∀ all', OkG om all (g.mvG s w) all' → Q (bI (g.mvC s w)) all') : wX11_goes Q (nI s) (nI w) all := by
  have h8 := W.s8
  have hc8 := W.c8
  have hr8 := W.r8
  obtain ⟨es, hp, hi⟩ := W.place s hs
  obtain ⟨st, hst, est⟩ := W.str s hs
  have no : ¬ g.mvC s w → Q 0 all := fun n => by
    have := h all
    unfold GU.mvG at this
    rw [bI_F n, if_neg n] at this
    exact this (OkG.same W R)
  unfold wX11_goes
  refine ip_there W R hs hw (ip_isHeld W R hs ?_)
  by_cases he : g.held s
  · rw [bI_T he]
    exact ip_F' (by decide) (no (fun q => q.2.2.2.1 he))
  rw [bI_F he]
  refine ip_T' rfl (ip_its s 0 (by omega) (by omega) ?_)
  rw [Nat.add_zero, R.str s hs]
  have big : g.seen (g.pl s) w = 999 → Q 0 all → ((g.str s < g.seen (g.pl s) w → Q 0 all) ∧ (¬ g.str s < g.seen (g.pl s) w → wX11_its (fun r_18 => (r_18 = -1 → wX11_goes_56 Q (nI s) (nI w) (1 + g.seen (g.pl s) w / 10) all) ∧ (¬ r_18 = -1 → wX11_its (fun r_20 => (1 + g.seen (g.pl s) w / 10 ≤ r_20 → wX11_goes_56 Q (nI s) (nI w) (1 + g.seen (g.pl s) w / 10) all) ∧ (¬ 1 + g.seen (g.pl s) w / 10 ≤ r_20 → Q 0 all)) (nI s) 1 all)) (nI s) 1 all)) := by
    intro e q
    refine ip_T ?_ q
    rw [e, est, show (999 : Int32) = nI 999 from rfl, nI_ltI (by omega) (by omega)]
    omega
  rcases nxt_cases W hp hw with ⟨f, -⟩ | ⟨a, b, ha, hb, hk, hin, -, er, ec, f⟩
  · exact big (by unfold GU.seen; rw [if_pos f]) (no (fun q => q.1 f))
  · have nc : (g.nxt (g.pl s) w).toNatClampNeg = 8 * a + b := by rw [f, nI_clamp (by omega)]
    have nm : ¬ g.nxt (g.pl s) w = -1 := by rw [f]; exact nI_m1 hk
    by_cases c : g.sea (g.nxt (g.pl s) w).toNatClampNeg = 0
    · exact big (by unfold GU.seen; rw [if_neg nm, if_pos c]) (no (fun q => q.2.1 c))
    by_cases d : g.shipIn (g.nxt (g.pl s) w) = -1
    · have se : g.seen (g.pl s) w = g.bur (8 * a + b) := by
        unfold GU.seen; rw [if_neg nm, if_neg c, if_pos d, nc]
      rw [se]
      have fin : g.mvC s w → wX11_goes_56 Q (nI s) (nI w) (1 + g.bur (8 * a + b) / 10) all := by
        intro y
        have h := h
        unfold GU.mvG at h
        rw [bI_T y, if_pos y, nc, f] at h
        have tail : ∀ (fu : Nat → Int32) (all1 : Nat → Int32), Rg om all1 ((g.rows, g.cols, g.size, g.hour, g.laid, g.grown, g.melted, g.sea, g.fast, g.level, g.ridged, g.chan, g.str, (fu), g.place, g.told, g.moved, g.line, g.done, g.ord, g.cold, g.way, g.force) : GU) → (∀ i, (7 ≤ i ∧ i < 40 ∨ 10340 ≤ i) → all1 i = all i) → (∀ all', OkG om all ((g.rows, g.cols, g.size, g.hour, g.laid, g.grown, g.melted, g.sea, g.fast, g.level, g.ridged, g.chan, g.str, (fu), (upd g.place s (nI (8 * a + b))), g.told, (upd g.moved s (g.moved s + 1)), g.line, g.done, g.ord, g.cold, g.way, g.force) : GU) all' → Q 1 all') → wX11_goes_81 Q (nI s) (nI w) all1 := by
          intro fu all1 R1 un hq
          unfold wX11_goes_81
          refine ip_its s 2 (by omega) (by omega) (ip_rowTo hw (ip_ships s 2 (by omega) (by omega) (ip_its s 3 (by omega) (by omega) (ip_columnTo hw (ip_ships s 3 (by omega) (by omega) (ip_its s 5 (by omega) (by omega) (ip_ships s 5 (by omega) (by omega) ?_)))))))
          have r2 : all1 (360 + 12 * s + 2) = nI (g.pl s / 8) := R1.prow s hs
          have r3 : all1 (360 + 12 * s + 3) = nI (g.pl s % 8) := R1.pcol s hs
          have r5 : all1 (360 + 12 * s + 5) = g.moved s := R1.moved s hs
          rw [pk_un (show 360 + 12 * s + 3 ≠ 360 + 12 * s + 2 by omega), r2, r3, er, ec, pk_un (show 360 + 12 * s + 5 ≠ 360 + 12 * s + 3 by omega), pk_un (show 360 + 12 * s + 5 ≠ 360 + 12 * s + 2 by omega), r5]
          have R2 := R1.setPlace s (8 * a + b) h8 (by omega) hk
          rw [show (8 * a + b) / 8 = a by omega, show (8 * a + b) % 8 = b by omega] at R2
          have R3 := R2.setMoved s (g.moved s + 1) h8 (by omega)
          exact hq _ ⟨W.move hs hk hin (by rw [← f]; exact d), R3, fun i hi => by rw [pk_un (by omega), pk_un (by omega), pk_un (by omega)]; exact un i hi⟩
        unfold wX11_goes_56
        refine ip_its s 1 (by omega) (by omega) ?_
        rw [R.fuel s hs]
        refine ip_split (fun x => ?_) (fun x => ip_its s 1 (by omega) (by omega) (ip_ships s 1 (by omega) (by omega) ?_))
        · rw [if_pos x] at h
          exact tail _ all R (fun _ _ => rfl) h
        · rw [if_neg x] at h
          rw [R.fuel s hs]
          exact tail _ _ (R.setFuel s _ h8 (by omega)) (fun i hi => by rw [pk_un (by omega)]) h
      refine ip_split (fun u => no (fun q => q.2.2.2.2.1 (by rw [nc]; exact u))) (fun u => ip_its s 1 (by omega) (by omega) ?_)
      rw [R.fuel s hs]
      refine ip_split (fun x => fin ⟨nm, c, d, he, by rw [nc]; exact u, Or.inl x⟩) (fun x => ip_its s 1 (by omega) (by omega) ?_)
      rw [R.fuel s hs]
      refine ip_split (fun v => fin ⟨nm, c, d, he, by rw [nc]; exact u, Or.inr (by rw [nc]; exact v)⟩) (fun v => no (fun q => by
        rcases q.2.2.2.2.2 with y | y
        · exact x y
        · rw [nc] at y; exact v y))
    · exact big (by unfold GU.seen; rw [if_neg nm, if_neg c, if_neg d]) (no (fun q => d q.2.2.1))
def tellF (f : Nat → Int32) (s : Nat) (n : Int32) (m : Nat) : Nat → Int32 := fun k => if k < m ∧ k ≠ s then n else f k
theorem tellF_succ {f : Nat → Int32} {s : Nat} {n : Int32} {m : Nat} : tellF f s n (m + 1) = if m = s then tellF f s n m else upd (tellF f s n m) m n := by
  by_cases e : m = s
  · rw [if_pos e]
    funext k
    unfold tellF
    by_cases h : k < m ∧ k ≠ s
    · rw [if_pos h, if_pos (by omega)]
    · rw [if_neg h, if_neg (by omega)]
  · rw [if_neg e]
    funext k
    by_cases q : k = m
    · subst q
      rw [pk_us]
      unfold tellF
      rw [if_pos (by omega)]
    · rw [pk_un q]
      unfold tellF
      by_cases h : k < m ∧ k ≠ s
      · rw [if_pos h, if_pos (by omega)]
      · rw [if_neg h, if_neg (by omega)]
theorem tellF_0 {f : Nat → Int32} {s : Nat} {n : Int32} : tellF f s n 0 = f := funext fun k => if_neg (by omega)
theorem c_tell {Q : (Nat → Int32) → Prop} {g : GU} (W : Wf g) {s : Nat} {n : Int32} (hs : s < g.size) (h : Q (tellF g.told s n g.size)) : wX1_tellOthers Q (nI s) n (nI g.size) g.told := by
  have h8 := W.s8
  refine ⟨g.size + 1, ?_⟩
  have lp : ∀ (m i : Nat), i + m = g.size → wX1_tellOthers_2 Q (m + 1) (nI s) n (nI i) (nI g.size) (tellF g.told s n i) := by
    intro m
    induction m with
    | zero =>
      intro i hi
      have e : i = g.size := by omega
      subst e
      exact ip_T (nI_le (Nat.le_refl _) (by omega)) h
    | succ m ih =>
      intro i hi
      have := ih (i + 1) (by omega)
      rw [tellF_succ] at this
      refine ip_F (nI_ge (by omega) (by omega)) ?_
      unfold wX1_tellOthers_22
      rw [nI_1, nI_clamp (by omega), nI_eq (by omega) (by omega)]
      refine ip_split (fun c => ?_) (fun c => ⟨vp_in_nI (by omega) (by omega), ?_⟩)
      · rw [if_pos c] at this; exact this
      · rw [if_neg c] at this; exact this
  have := lp g.size 0 (by omega)
  rw [tellF_0] at this
  exact this
theorem m_tell {om : Nat → Option OR} {Q : Int32 → (Nat → Int32) → Prop} {all : Nat → Int32} {g : GU} (W : Wf g) (R : Rg om all g) {s : Nat} {n : Int32} (hs : s < g.size) (h : ∀ all', OkG om all ((g.rows, g.cols, g.size, g.hour, g.laid, g.grown, g.melted, g.sea, g.fast, g.level, g.ridged, g.chan, g.str, g.fuel, g.place, (tellF g.told s n g.size), g.moved, g.line, g.done, g.ord, g.cold, g.way, g.force) : GU) all' → Q 1 all') : ∃ j_, wX11_does_39 Q j_ (nI s) n 0 all := by
  have h8 := W.s8
  have v2 := ip_in (x := 2) 2 53700 rfl (by omega) (by omega)
  refine ⟨g.size + 1, ?_⟩
  have lp : ∀ (m i : Nat), i + m = g.size → ∀ all1, OkG om all ((g.rows, g.cols, g.size, g.hour, g.laid, g.grown, g.melted, g.sea, g.fast, g.level, g.ridged, g.chan, g.str, g.fuel, g.place, (tellF g.told s n i), g.moved, g.line, g.done, g.ord, g.cold, g.way, g.force) : GU) all1 → wX11_does_39 Q (m + 1) (nI s) n (nI i) all1 := by
    intro m
    induction m with
    | zero =>
      intro i hi all1 ok
      have e : i = g.size := by omega
      subst e
      refine ⟨v2, ip_T ?_ (h all1 ok)⟩
      rw [show (2 : Int32).toNatClampNeg = 2 from rfl, show all1 2 = nI g.size from ok.2.1.size]
      exact nI_le (Nat.le_refl _) (by omega)
    | succ m ih =>
      intro i hi all1 ok
      refine ⟨v2, ip_F ?_ ?_⟩
      · rw [show (2 : Int32).toNatClampNeg = 2 from rfl, show all1 2 = nI g.size from ok.2.1.size]
        exact nI_ge (by omega) (by omega)
      · unfold wX11_does_64
        rw [nI_1, nI_eq (by omega) (by omega)]
        refine ip_split (fun c => ?_) (fun c => ip_ships i 4 (by omega) (by omega) ?_)
        · refine ih (i + 1) (by omega) all1 ?_
          rw [tellF_succ, if_pos c]; exact ok
        · refine ih (i + 1) (by omega) _ ?_
          rw [tellF_succ, if_neg c]
          exact ⟨(Wf.mk' (k_r1 := W.r1) (k_r8 := W.r8) (k_c1 := W.c1) (k_c8 := W.c8) (k_s8 := W.s8) (k_h1 := W.h1) (k_sea := W.sea) (k_fast := W.fast) (k_out := W.out) (k_chan := W.chan) (k_place := W.place) (k_dist := W.dist) (k_str := W.str) (k_done := W.done) (k_way := W.way) (k_force := W.force)), ok.2.1.setTold i n h8 (by omega), fun k hk => (pk_un (by omega)).trans (ok.2.2 k hk)⟩
  exact lp g.size 0 (by omega) all (by rw [tellF_0]; exact OkG.same W R)
def GU.actG (g : GU) (s w : Nat) (n : Int32) : GU := if w < 4 then g.mvG s w else if w = 14 then g.cutG s else if w = 15 then ((g.rows, g.cols, g.size, g.hour, g.laid, g.grown, g.melted, g.sea, g.fast, g.level, g.ridged, g.chan, g.str, g.fuel, g.place, (tellF g.told s n g.size), g.moved, g.line, g.done, g.ord, g.cold, g.way, g.force) : GU) else g
def GU.actR (g : GU) (s w : Nat) : Int32 := if w < 4 then bI (g.mvC s w) else if w = 14 then bI (g.cutC s) else 1
theorem mvG_un {g : GU} {s w : Nat} : (g.mvG s w).told = g.told ∧ (g.mvG s w).chan = g.chan := by
  unfold GU.mvG; split <;> exact ⟨rfl, rfl⟩
theorem cutG_un {g : GU} {s : Nat} : (g.cutG s).told = g.told ∧ (g.cutG s).moved = g.moved ∧ (g.cutG s).place = g.place := by
  unfold GU.cutG; split <;> exact ⟨rfl, rfl, rfl⟩
theorem c_act {Q : Int32 → (Nat → Int32) → (Nat → Int32) → (Nat → Int32) → (Nat → Int32) → (Nat → Int32) → Prop} {g : GU} (W : Wf g) {s w : Nat} {n : Int32} (hs : s < g.size) (hw : w < 4 ∨ w = 13 ∨ w = 14 ∨ w = 15) (h : Q (g.actR s w) (g.actG s w n).fuel (g.actG s w n).moved (g.actG s w n).place (g.actG s w n).told (g.actG s w n).chan) : wX2_carryOut Q (nI s) (nI w) n (nI g.hour) (nI g.size) (nI g.rows) (nI g.cols) g.fuel g.moved g.place g.str g.told g.chan g.level g.ridged g.sea := by
  unfold wX2_carryOut
  unfold GU.actR GU.actG at h
  rcases hw with c | c | c | c
  · rw [if_pos c, if_pos c, mvG_un.1, mvG_un.2] at h
    have nn : ∀ z : Nat, 4 ≤ z → z ≤ 15 → ¬ nI w = nI z := fun z h1 h2 q => by
      rw [nI_eq (by omega) (by omega)] at q; omega
    refine ⟨fun q => absurd q (nn 13 (by omega) (by omega)), fun q => absurd q (nn 14 (by omega) (by omega)), fun q => absurd q (nn 15 (by omega) (by omega)), fun _ => c_move W hs c ⟨bI_nar, h⟩⟩
  · subst c
    exact ⟨fun _ => h, fun e_ => absurd e_ (by decide), fun e_ => absurd e_ (by decide), fun e_ => absurd e_ (by decide)⟩
  · subst c
    have h' : Q (bI (g.cutC s)) (g.cutG s).fuel (g.cutG s).moved (g.cutG s).place (g.cutG s).told (g.cutG s).chan := h
    rw [cutG_un.1, cutG_un.2.1, cutG_un.2.2] at h'
    exact ⟨fun e_ => absurd e_ (by decide), fun _ => c_cut W hs ⟨bI_nar, h'⟩, fun e_ => absurd e_ (by decide), fun e_ => absurd e_ (by decide)⟩
  · subst c
    exact ⟨fun e_ => absurd e_ (by decide), fun e_ => absurd e_ (by decide), fun _ => c_tell W hs h, fun e_ => absurd e_ (by decide)⟩
theorem m_act {om : Nat → Option OR} {Q : Int32 → (Nat → Int32) → Prop} {all : Nat → Int32} {g : GU} (W : Wf g) (R : Rg om all g) {s w : Nat} {n : Int32} (hs : s < g.size) (hw : w < 4 ∨ w = 13 ∨ w = 14 ∨ w = 15) (h : ∀ all', OkG om all (g.actG s w n) all' → Q (g.actR s w) all') : wX11_does Q (nI s) (nI (wordR w)) n all := by
  unfold wX11_does
  unfold GU.actR GU.actG at h
  rcases hw with c | c | c | c
  · rw [if_pos c, if_pos c] at h
    have e : wordR w = w + 8 := by unfold wordR; rw [if_pos c]
    rw [e]
    have nn : ∀ z : Nat, 12 ≤ z → z ≤ 30 → ¬ nI (w + 8) = nI z := fun z h1 h2 q => by
      rw [nI_eq (by omega) (by omega)] at q; omega
    refine ip_F' (nn 24 (by omega) (by omega)) (ip_F' (nn 25 (by omega) (by omega)) (ip_F (nn 26 (by omega) (by omega)) ?_))
    rw [show nI (w + 8) - 8 = nI w from by rw [show (8 : Int32) = nI 8 from rfl, pk_sub (by omega), Nat.add_sub_cancel]]
    exact m_move W R hs c (fun all' ok => ⟨bI_nar, h all' ok⟩)
  · subst c
    exact ip_T' (by decide) (h all (OkG.same W R))
  · subst c
    exact ip_F' (by decide) (ip_T' (by decide) (m_cut W R hs (fun all' ok => ⟨bI_nar, h all' ok⟩)))
  · subst c
    exact ip_F' (by decide) (ip_F' (by decide) (ip_T (by decide) (m_tell W R hs (fun all' ok => h all' ok))))
