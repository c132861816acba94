/-! PURE LEVEL 5: land; a ship laid in; call; end; fault; clear; turn; passage -/
theorem find_of {g : GU} (W : Wf g) {a b : Nat} (ha : a < g.rows) (hb : b < g.cols) : g.find (nI a) (nI b) = nI (8 * a + b) := by
  have hc8 := W.c8
  have hr8 := W.r8
  rcases GU.find_cases W (nI a) (nI b) with ⟨-, n⟩ | ⟨a', b', ha', hb', er, ec, f⟩
  · exact absurd ⟨a, b, ha, hb, rfl, rfl⟩ n
  · rw [nI_eq (by omega) (by omega)] at er ec; subst er; subst ec; exact f
theorem Rg.congrG {om : Nat → Option OR} {all : Nat → Int32} {g g' : GU} (R : Rg om all g) (e : g = g') : Rg om all g' := e ▸ R
theorem m_land {om : Nat → Option OR} {all : Nat → Int32} {w : WH} (W : WfW w) (R : RW om all w) {y : Int32} (hy : y = 0 ∨ y = 1) {a b : Nat} (ha : a < w.g.rows) (hb : b < w.g.cols) {K' : Int32 → (Nat → Int32) → Prop} (h1 : ¬ w.g.sea (8 * a + b) = y ∨ w.g.shipIn (nI (8 * a + b)) ≠ -1 → K' 0 all)
    (h3 : w.g.sea (8 * a + b) = y → w.g.shipIn (nI (8 * a + b)) = -1 → ∀ all', Ok om all (((((w.g.rows, w.g.cols, w.g.size, w.g.hour, (w.g.laid - (w.g.level (8 * a + b) + w.g.ridged (8 * a + b))), w.g.grown, w.g.melted, (upd w.g.sea (8 * a + b) (1 - y)), (upd w.g.fast (8 * a + b) 0), (upd w.g.level (8 * a + b) 0), (upd w.g.ridged (8 * a + b) 0), (upd w.g.chan (8 * a + b) (-1)), w.g.str, w.g.fuel, w.g.place, w.g.told, w.g.moved, w.g.line, w.g.done, w.g.ord, w.g.cold, w.g.way, w.g.force) : GU)), w.tlen, w.tape, w.fault, w.place, w.psize, w.frm, w.takes, w.worth, w.ssize, w.settled) : WH) all' → K' 1 all') : wX11_land K' (nI a) (nI b) y all := by
  obtain ⟨hk, hi⟩ := ins_of W.g ha hb
  have hc8 := W.g.c8
  have hr8 := W.g.r8
  have hs8 := W.g.s8
  unfold wX11_land
  refine ip_isCell W.g R.g _ _ ?_
  rw [find_of W.g ha hb, bI_T (nI_m1 hk)]
  refine ip_F (by decide) (ip_of a b 0 (by omega) (by omega) (by omega) ?_)
  rw [Nat.add_zero, R.g.sea _ hk hi]
  have key : ∀ z : Int32, (z = 0 ∨ z = 1) → (w.g.sea (8 * a + b) = 1 - z) → wX11_land_24 K' (nI a) (nI b) y z all := by
    intro z hz ez
    unfold wX11_land_24
    refine ip_split (fun c => h1 (Or.inl ?_)) (fun c => ?_)
    · subst c; rw [ez]; rcases hz with e | e <;> subst e <;> decide
    · have ey : w.g.sea (8 * a + b) = y := by
        rw [ez]; rcases hz with e | e <;> rcases hy with e' | e' <;> subst e <;> subst e' <;> first | rfl | exact absurd rfl c
      refine ip_shipAt W.g R.g ?_
      rw [GU.shipAt_in W.g (by omega) (by omega)]
      refine ip_split (fun d => ?_) (fun d => h1 (Or.inr (fun e => d ((firstP_neg _ (by omega)).mpr e))))
      have d' := (firstP_neg _ (by omega)).mp d
      refine ⟨ip_in 4 _ rfl (by omega) (by omega), ip_of a b 1 (by omega) (by omega) (by omega) (ip_of a b 2 (by omega) (by omega) (by omega) ⟨ip_in 4 _ rfl (by omega) (by omega), ?_⟩)⟩
      rw [show (4 : Int32).toNatClampNeg = 4 from rfl, R.g.laid, R.g.level _ hk, R.g.ridged _ hk]
      have R1 := R.g.setLaid (w.g.laid - (w.g.level (8 * a + b) + w.g.ridged (8 * a + b))) W.g.s8
      have R2 := R1.setSea (8 * a + b) (1 - y) hk
      have R3 := R2.setLevel (8 * a + b) 0 hk
      have R4 := R3.setRidged (8 * a + b) 0 hk
      have R5 := R4.setChan (8 * a + b) (-1) hk
      have R6 := R5.setFast (8 * a + b) 0 hk
      have y1 : (1 - y = 0 ∨ 1 - y = 1) := by rcases hy with e | e <;> subst e <;> decide
      have fin := h3 ey d' _ (Ok.gulf W R ((W.g.lay (l := w.g.laid - (w.g.level (8 * a + b) + w.g.ridged (8 * a + b))) (lv := 0) (rd := 0) hk hi (Or.inl rfl)).sea' hk hi y1) R6 (fun i hi => by
        rw [pk_un (by omega), pk_un (by omega), pk_un (by omega), pk_un (by omega), pk_un (by omega), pk_un (by omega)]))
      refine ⟨6, ip_F (by decide) (ip_T' rfl ?_)⟩
      have s0 : wX11_land_105 K' (wX11_land_66 K' 5) (nI a) (nI b) y 0 (nI a) (nI b) 0 (1 - y) (upd all 4 (w.g.laid - (w.g.level (8 * a + b) + w.g.ridged (8 * a + b)))) := by
        refine ip_sets a b 0 (by omega) (by omega) (by omega) ?_
        refine ip_F (by decide) (ip_F' (by decide) (ip_F' (by decide) (ip_sets a b 1 (by omega) (by omega) (by omega) ?_)))
        refine ip_F (by decide) (ip_F' (by decide) (ip_F' (by decide) (ip_sets a b 2 (by omega) (by omega) (by omega) ?_)))
        refine ip_F (by decide) (ip_F' (by decide) (ip_T' (by decide) (ip_sets a b 3 (by omega) (by omega) (by omega) ?_)))
        refine ip_F (by decide) (ip_F' (by decide) (ip_F' (by decide) (ip_sets a b 4 (by omega) (by omega) (by omega) ?_)))
        refine ip_T (by decide) ?_
        exact fin
      refine ip_split (fun e => ?_) (fun e => ?_)
      · subst e; exact s0
      · have e1 := hy.resolve_left e
        subst e1; exact s0
  refine ip_split' (fun e => key 1 (Or.inr rfl) (by rw [e]; rfl)) (fun e => key 0 (Or.inl rfl) (by rw [(W.g.sea _ hk).resolve_left e]; rfl))
theorem sim_land {om : Nat → Option OR} {all : Nat → Int32} {w : WH} (W : WfW w) (R : RW om all w) {y1 y2 y3 : Int32} (hy : y3 = 0 ∨ y3 = 1) {K : Int32 → Int32 → (Nat → Int32) → (Nat → Int32) → (Nat → Int32) → (Nat → Int32) → (Nat → Int32) → Int32 → (Nat → Int32) → Prop}
    (hK : ∀ r laid chan fast level ridged sea all', Ok om all (((((w.g.rows, w.g.cols, w.g.size, w.g.hour, (laid), w.g.grown, w.g.melted, (sea), (fast), (level), (ridged), (chan), w.g.str, w.g.fuel, w.g.place, w.g.told, w.g.moved, w.g.line, w.g.done, w.g.ord, w.g.cold, w.g.way, w.g.force) : GU)), w.tlen, w.tape, w.fault, w.place, w.psize, w.frm, w.takes, w.worth, w.ssize, w.settled) : WH) all' → K r laid chan fast level ridged sea r all') :
    wX10_land (fun r laid chan fast level ridged sea => wX11_land (fun r2 all' => K r laid chan fast level ridged sea r2 all') y1 y2 y3 all) y1 y2 y3 (nI w.g.size) (nI w.g.rows) (nI w.g.cols) w.g.laid w.g.place w.g.chan w.g.fast w.g.level w.g.ridged w.g.sea := by
  have hno : ∀ r, K r w.g.laid w.g.chan w.g.fast w.g.level w.g.ridged w.g.sea r all := fun r => hK _ _ _ _ _ _ _ _ (Ok.same W R)
  unfold wX10_land
  refine ip_find W.g _ _ (fun f => ip_T rfl ?_) (fun a b ha hb hk hi er ec f => ip_F (nI_m1 hk) ⟨vp_in_nI hk (by omega), ?_⟩)
  · unfold wX11_land
    refine ip_isCell W.g R.g _ _ ?_
    rw [bI_F (fun q => q f)]
    exact ip_T rfl (hno _)
  · subst er; subst ec
    rw [nI_clamp (by omega)]
    have v := vp_in_nI hk (N := 64) (by omega)
    refine ip_split' (fun e => ?_) (fun e => ?_)
    · refine ip_shipIn W.g (ip_split (fun d => ⟨v, v, ?_⟩) (fun d => ?_))
      · have s0 : ∀ z : Int32, z = 1 - y3 → wX10_land_100 (fun r laid chan fast level ridged sea => wX11_land (fun r2 all' => K r laid chan fast level ridged sea r2 all') (nI a) (nI b) y3 all) (nI (8 * a + b)) z (nI w.g.size) (nI w.g.rows) (nI w.g.cols) (w.g.laid - (w.g.level (8 * a + b) + w.g.ridged (8 * a + b))) w.g.place w.g.chan w.g.fast w.g.level w.g.ridged w.g.sea := by
          intro z ez
          unfold wX10_land_100 wX3_empty
          rw [nI_clamp (by omega), ip_nb (Or.inl rfl), ip_nb (by subst ez; rcases hy with e | e <;> subst e <;> decide)]
          subst ez
          exact ⟨v, v, v, v, v, m_land W R hy ha hb (fun q => absurd q (not_or.mpr ⟨fun n => n e, fun n => n d⟩)) (fun _ _ all' ok => hK 1 _ _ _ _ _ _ all' ok)⟩
        refine ip_split' (fun z => s0 _ (by subst z; rfl)) (fun z => s0 _ (by rw [hy.resolve_left z]; rfl))
      · exact m_land W R hy ha hb (fun _ => hno _) (fun _ n => absurd n d)
    · exact m_land W R hy ha hb (fun _ => hno _) (fun n => absurd n e)
