/-! PURE LEVEL 4: land and ice -/
def Ok (om : Nat → Option OR) (all : Nat → Int32) (w : WH) (all' : Nat → Int32) : Prop := WfW w ∧ RW om all' w ∧ ∀ i, (10740 ≤ i ∧ i < 42960) → all' i = all i
theorem Ok.same {om : Nat → Option OR} {all : Nat → Int32} {w : WH} (W : WfW w) (R : RW om all w) : Ok om all w all := ⟨W, R, fun _ _ => rfl⟩
theorem Ok.gulf {om : Nat → Option OR} {all all' : Nat → Int32} {w : WH} {g' : GU} (W : WfW w) (R : RW om all w) (W' : Wf g') (R' : Rg om all' g') (h : ∀ i, (7 ≤ i ∧ i < 40 ∨ 10340 ≤ i) → all' i = all i) : Ok om all (((g'), w.tlen, w.tape, w.fault, w.place, w.psize, w.frm, w.takes, w.worth, w.ssize, w.settled) : WH) all' :=
  ⟨(WfW.mk' (k_g := W') (k_tlen := W.tlen) (k_tape := W.tape) (k_psize := W.psize) (k_frm := W.frm) (k_takes := W.takes) (k_worth := W.worth) (k_ssize := W.ssize)), R.gulf W R' h, fun i hi => h i (by omega)⟩
theorem ip_nb {x : Int32} (h : x = 0 ∨ x = 1) : vp_nar .boolean x = x := by rcases h with h | h <;> subst h <;> rfl
theorem firstP_neg (p : Nat → Prop) [DecidablePred p] {m : Nat} (hm : m < 2 ^ 31) : firstP p m 0 < 0 ↔ firstP p m 0 = -1 := by
  rcases firstP_cases p m 0 with ⟨h, -⟩ | ⟨j, h1, h2, h3, h4, h5⟩
  · rw [h]; decide
  · rw [h4]
    exact ⟨fun c => absurd c (nI_pos (by omega)), fun c => absurd c (nI_ne_m1 (by omega))⟩
theorem Wf.lay {g : GU} (W : Wf g) {k : Nat} {fs lv rd : Int32} {l : Int32} (hk : k < 64) (hi : g.ins k) (hf : fs = 0 ∨ fs = 1) : Wf ((g.rows, g.cols, g.size, g.hour, (l), g.grown, g.melted, g.sea, (upd g.fast k fs), (upd g.level k lv), (upd g.ridged k rd), (upd g.chan k (-1)), g.str, g.fuel, g.place, g.told, g.moved, g.line, g.done, g.ord, g.cold, g.way, g.force) : GU) :=
  (Wf.mk'
    (k_r1 := W.r1)
    (k_r8 := W.r8)
    (k_c1 := W.c1)
    (k_c8 := W.c8)
    (k_s8 := W.s8)
    (k_h1 := W.h1)
    (k_sea := W.sea)
    (k_fast := fun j hj => by
      by_cases e : j = k
      · subst e; show upd g.fast j fs j = 0 ∨ upd g.fast j fs j = 1; rw [pk_us]; exact hf
      · show upd g.fast k fs j = 0 ∨ upd g.fast k fs j = 1; rw [pk_un e]; exact W.fast j hj)
    (k_out := fun j hj ho => by
      have e : j ≠ k := fun e => ho (by subst e; exact hi)
      have := W.out j hj ho
      show g.sea j = 0 ∧ upd g.level k lv j = 0 ∧ upd g.ridged k rd j = 0 ∧ upd g.chan k (-1) j = -1
      rw [pk_un e, pk_un e, pk_un e]; exact this)
    (k_chan := fun j hj => by
      show upd g.chan k (-1) j = -1 ∨ ∃ t : Nat, t ≤ 1000 ∧ upd g.chan k (-1) j = nI t
      by_cases e : j = k
      · subst e; rw [pk_us]; exact Or.inl rfl
      · rw [pk_un e]; exact W.chan j hj)
    (k_place := W.place)
    (k_dist := W.dist)
    (k_str := W.str)
    (k_done := W.done)
    (k_way := W.way)
    (k_force := W.force))
theorem Wf.sea' {g : GU} (W : Wf g) {k : Nat} {v : Int32} (hk : k < 64) (hi : g.ins k) (hv : v = 0 ∨ v = 1) : Wf ((g.rows, g.cols, g.size, g.hour, g.laid, g.grown, g.melted, (upd g.sea k v), g.fast, g.level, g.ridged, g.chan, g.str, g.fuel, g.place, g.told, g.moved, g.line, g.done, g.ord, g.cold, g.way, g.force) : GU) :=
  (Wf.mk'
    (k_r1 := W.r1)
    (k_r8 := W.r8)
    (k_c1 := W.c1)
    (k_c8 := W.c8)
    (k_s8 := W.s8)
    (k_h1 := W.h1)
    (k_sea := fun j hj => by
      show upd g.sea k v j = 0 ∨ upd g.sea k v j = 1
      by_cases e : j = k
      · subst e; rw [pk_us]; exact hv
      · rw [pk_un e]; exact W.sea j hj)
    (k_fast := W.fast)
    (k_out := fun j hj ho => by
      have e : j ≠ k := fun e => ho (by subst e; exact hi)
      have := W.out j hj ho
      show upd g.sea k v j = 0 ∧ g.level j = 0 ∧ g.ridged j = 0 ∧ g.chan j = -1
      rw [pk_un e]; exact this)
    (k_chan := W.chan)
    (k_place := W.place)
    (k_dist := W.dist)
    (k_str := W.str)
    (k_done := W.done)
    (k_way := W.way)
    (k_force := W.force))
theorem ins_of {g : GU} {a b : Nat} (W : Wf g) (ha : a < g.rows) (hb : b < g.cols) : 8 * a + b < 64 ∧ g.ins (8 * a + b) := by
  have h1 := W.r8
  have h2 := W.c8
  exact ⟨by omega, ⟨by omega, by omega⟩⟩
theorem ip_find {Q : Int32 → Prop} {g : GU} (W : Wf g) (r c : Int32) (h0 : g.find r c = -1 → Q (-1)) (h1 : ∀ a b : Nat, a < g.rows → b < g.cols → 8 * a + b < 64 → g.ins (8 * a + b) → r = nI a → c = nI b → g.find r c = nI (8 * a + b) → Q (nI (8 * a + b))) : wX3_find Q r c (nI g.rows) (nI g.cols) := by
  rw [p_find]
  rcases GU.find_cases W r c with ⟨f, -⟩ | ⟨a, b, ha, hb, er, ec, f⟩
  · have := h0 f; rw [← f] at this; exact this
  · have := h1 a b ha hb (ins_of W ha hb).1 (ins_of W ha hb).2 er ec f; rw [← f] at this; exact this
theorem nI_m1 {n : Nat} (h : n < 64) : ¬ nI n = -1 := nI_ne_m1 (by omega)
theorem m_ice {om : Nat → Option OR} {all : Nat → Int32} {w : WH} (W : WfW w) (R : RW om all w) {y3 y4 y5 : Int32} (hy : y5 = 0 ∨ y5 = 1) {a b : Nat} (ha : a < w.g.rows) (hb : b < w.g.cols) {K' : Int32 → (Nat → Int32) → Prop} (h1 : w.g.sea (8 * a + b) = 0 ∨ inI y3 0 100 = 0 ∨ inI y4 0 100 = 0 → K' 0 all) (h3 : ¬ w.g.sea (8 * a + b) = 0 → inI y3 0 100 ≠ 0 → inI y4 0 100 ≠ 0 → ∀ all', Ok om all (((((w.g.rows, w.g.cols, w.g.size, w.g.hour, (w.g.laid + (y3 + y4 - w.g.level (8 * a + b) - w.g.ridged (8 * a + b))), w.g.grown, w.g.melted, w.g.sea, (upd w.g.fast (8 * a + b) y5), (upd w.g.level (8 * a + b) y3), (upd w.g.ridged (8 * a + b) y4), (upd w.g.chan (8 * a + b) (-1)), w.g.str, w.g.fuel, w.g.place, w.g.told, w.g.moved, w.g.line, w.g.done, w.g.ord, w.g.cold, w.g.way, w.g.force) : GU)), w.tlen, w.tape, w.fault, w.place, w.psize, w.frm, w.takes, w.worth, w.ssize, w.settled) : WH) all' → K' 1 all') : wX11_ice K' (nI a) (nI b) y3 y4 y5 all := by
  obtain ⟨hk, hi⟩ := ins_of W.g ha hb
  have hc8 := W.g.c8
  have hr8 := W.g.r8
  unfold wX11_ice
  refine ip_isSea W.g R.g _ _ ?_
  have f : w.g.find (nI a) (nI b) = nI (8 * a + b) := by
    rcases GU.find_cases W.g (nI a) (nI b) with ⟨-, n⟩ | ⟨a', b', ha', hb', er, ec, f⟩
    · exact absurd ⟨a, b, ha, hb, rfl, rfl⟩ n
    · rw [nI_eq (by omega) (by omega)] at er ec; subst er; subst ec; exact f
  rw [f, nI_clamp (by omega)]
  rcases W.g.sea _ hk with s0 | s1
  · rw [bI_F (fun q => by rw [s0] at q; exact absurd q.2 (by decide))]
    exact ip_T rfl (h1 (Or.inl s0))
  · have sn : ¬ w.g.sea (8 * a + b) = 0 := by rw [s1]; decide
    rw [bI_T ⟨nI_m1 hk, s1⟩]
    refine ip_F (by decide) (p_isIn.mpr (ip_split (fun c => h1 (Or.inr (Or.inl c))) (fun c => p_isIn.mpr (ip_split' (fun d => h1 (Or.inr (Or.inr d))) (fun d => ?_)))))
    refine ⟨ip_in 4 _ rfl (by omega) (by omega), ip_of a b 1 (by omega) (by omega) (by omega) (ip_of a b 2 (by omega) (by omega) (by omega) ⟨ip_in 4 _ rfl (by omega) (by omega), ?_⟩)⟩
    have R1 := R.g.setLaid (w.g.laid + (y3 + y4 - w.g.level (8 * a + b) - w.g.ridged (8 * a + b))) W.g.s8
    rw [show (4 : Int32).toNatClampNeg = 4 from rfl, R.g.laid, R.g.level _ hk, R.g.ridged _ hk]
    refine ip_sets a b 1 (by omega) (by omega) (by omega) ?_
    have R2 := R1.setLevel (8 * a + b) y3 hk
    refine ip_sets a b 2 (by omega) (by omega) (by omega) ?_
    have R3 := R2.setRidged (8 * a + b) y4 hk
    refine ip_sets a b 3 (by omega) (by omega) (by omega) ?_
    have R4 := R3.setChan (8 * a + b) (-1) hk
    have R5 := R4.setFast (8 * a + b) y5 hk
    have fin := h3 sn c d _ (Ok.gulf W R (W.g.lay hk hi hy) R5 (fun i hi => by
      rw [pk_un (by omega), pk_un (by omega), pk_un (by omega), pk_un (by omega), pk_un (by omega)]))
    refine ip_split (fun z => ?_) (fun z => ?_)
    · subst z; exact ip_sets a b 4 (by omega) (by omega) (by omega) fin
    · have z1 : y5 = 1 := hy.resolve_left z
      subst z1; exact ip_sets a b 4 (by omega) (by omega) (by omega) fin
theorem sim_ice {om : Nat → Option OR} {all : Nat → Int32} {w : WH} (W : WfW w) (R : RW om all w) {y1 y2 y3 y4 y5 : Int32} (hy : y5 = 0 ∨ y5 = 1) {K : Int32 → Int32 → (Nat → Int32) → (Nat → Int32) → (Nat → Int32) → (Nat → Int32) → Int32 → (Nat → Int32) → Prop}
    (hK : ∀ r laid chan fast level ridged all', Ok om all (((((w.g.rows, w.g.cols, w.g.size, w.g.hour, (laid), w.g.grown, w.g.melted, w.g.sea, (fast), (level), (ridged), (chan), w.g.str, w.g.fuel, w.g.place, w.g.told, w.g.moved, w.g.line, w.g.done, w.g.ord, w.g.cold, w.g.way, w.g.force) : GU)), w.tlen, w.tape, w.fault, w.place, w.psize, w.frm, w.takes, w.worth, w.ssize, w.settled) : WH) all' → K r laid chan fast level ridged r all') :
    wX10_ice (fun r laid chan fast level ridged => wX11_ice (fun r2 all' => K r laid chan fast level ridged r2 all') y1 y2 y3 y4 y5 all) y1 y2 y3 y4 y5 (nI w.g.rows) (nI w.g.cols) w.g.laid w.g.chan w.g.fast w.g.level w.g.ridged w.g.sea := by
  have hno : ∀ r, K r w.g.laid w.g.chan w.g.fast w.g.level w.g.ridged r all := fun r => hK _ _ _ _ _ _ _ (Ok.same W R)
  unfold wX10_ice
  refine ip_find W.g _ _ (fun f => ip_T rfl ?_) (fun a b ha hb hk hi er ec f => ip_F (nI_m1 hk) ⟨vp_in_nI hk (by omega), ?_⟩)
  · unfold wX11_ice
    refine ip_isSea W.g R.g _ _ ?_
    rw [bI_F (fun q => q.1 f)]
    exact ip_T rfl (hno _)
  · subst er; subst ec
    rw [nI_clamp (by omega)]
    refine ip_split (fun s0 => ?_) (fun sn => ?_)
    · exact m_ice W R hy ha hb (fun _ => hno _) (fun n => absurd s0 n)
    · refine p_within.mpr (ip_split (fun c => ?_) (fun c => p_within.mpr (ip_split' (fun d => ?_) (fun d => ?_))))
      · exact m_ice W R hy ha hb (fun _ => hno _) (fun _ n => absurd c n)
      · exact m_ice W R hy ha hb (fun _ => hno _) (fun _ _ n => absurd d n)
      · have v := vp_in_nI hk (N := 64) (by omega)
        unfold wX3_lay
        rw [nI_clamp (by omega), ip_nb hy]
        exact ⟨v, v, v, v, v, v, m_ice W R hy ha hb (fun q => absurd q (not_or.mpr ⟨sn, not_or.mpr ⟨c, d⟩⟩)) (fun _ _ _ all' ok => hK 1 _ _ _ _ _ all' ok)⟩
