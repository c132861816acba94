/-! PURE LEVEL 24: ahead of the class -/
theorem c_ahead_loop {QQ : Int32 → Int32 → Int32 → Int32 → Int32 → Int32 → Int32 → Int32 → (Nat → Int32) → (Nat → Int32) → (Nat → Int32) → (Nat → Int32) → (Nat → Option Nat) → (Nat → Int32) → (Nat → Int32) → (Nat → Int32) → (Nat → Int32) → (Nat → Int32) → (Nat → Int32) → (Nat → Int32) → (Nat → Int32) → (Nat → Int32) → Prop} {om : Nat → Option OR} {w : WH} (W : WfW w) {gf : GU} (A : AgG w.g gf) (ec : gf.cold = w.g.cold) (ew : gf.way = w.g.way) (ef : gf.force = w.g.force) (T : TXs om gf) {wh s j : Nat} {y2 x4 : Int32} (hwh : wh ≤ 5) (hs : wh ≤ 3 → s < w.g.size ∧ y2 = nI s) (hx : (wh ≤ 3 ∧ ¬ x4 = 0) ∨ (4 ≤ wh ∧ x4 = 0)) (h2 : j ≤ 100) (hj : w.g.hour + j ≤ 1000) (h : ∀ ar', QQ (w.g.fore (hrN om gf j) s wh) (nI (gf.hour + j)) (nI gf.size) (nI gf.rows) (nI gf.cols) gf.laid (hrN om gf j).grown (hrN om gf j).melted (hrN om gf j).done (hrN om gf j).fuel (hrN om gf j).line (hrN om gf j).moved gf.ord (hrN om gf j).place gf.str (hrN om gf j).told ar' (hrN om gf j).chan gf.fast (hrN om gf j).level (hrN om gf j).ridged gf.sea) : ∀ (m i : Nat), i + m = j → ∀ ar1, wX10_ahead_67 QQ om (m + 1) (nI j) y2 (nI wh) x4 (nI i) (nI (gf.hour + i)) (nI gf.size) (nI gf.rows) (nI gf.cols) gf.laid (hrN om gf i).grown (hrN om gf i).melted (nI w.g.hour) (nI w.g.size) (nI w.g.rows) (nI w.g.cols) w.g.laid w.g.grown w.g.melted (hrN om gf i).done (hrN om gf i).fuel (hrN om gf i).line (hrN om gf i).moved gf.ord (hrN om gf i).place gf.str (hrN om gf i).told ar1 (hrN om gf i).chan gf.fast (hrN om gf i).level (hrN om gf i).ridged gf.sea w.g.done w.g.fuel w.g.line w.g.moved w.g.ord w.g.place w.g.str w.g.told w.g.chan w.g.fast w.g.level w.g.ridged w.g.sea w.g.cold w.g.force w.g.way := by
  have s8 := W.g.s8
  have Wf' : Wf gf := W.g.ag A
  obtain ⟨⟨a1, a2, a3, a4, a5, a6, a7⟩, -, hsh, -⟩ := id A
  intro m
  induction m with
  | zero =>
    intro i hi ar1
    have e : i = j := by omega
    subst e
    refine ip_T (nI_le (Nat.le_refl _) (by omega)) ?_
    have hh := h ar1
    rcases hx with ⟨c, x⟩ | ⟨c, x⟩
    · refine ip_F x ?_
      obtain ⟨k1, k2⟩ := hs c
      subst k2
      have vs := vp_in_nI (show s < 8 by omega) (by omega)
      have Wj : Wf (hrN om gf i) := Wf'.hrN i (by rw [a4]; omega)
      have sz : (hrN om gf i).size = w.g.size := (hrN_same i).2.2.1.trans a3
      obtain ⟨es, hp, -⟩ := Wj.place s (by rw [sz]; exact k1)
      unfold wX10_foretoldOfShip
      rw [nI_clamp (by omega), es]
      have hw' : wh = 0 ∨ wh = 1 ∨ wh = 2 ∨ wh = 3 := by omega
      rcases hw' with e | e | e | e <;> subst e
      · refine ⟨fun _ => ⟨vs, ?_⟩, fun e_ => absurd e_ (by decide), fun e_ => absurd e_ (by decide), fun e_ => absurd e_ (by decide)⟩
        rw [show nI ((hrN om gf i).pl s) / 8 = nI ((hrN om gf i).pl s / 8) from pk_div (d := 8) (by omega) (by omega) (by omega)]
        exact hh
      · refine ⟨fun e_ => absurd e_ (by decide), fun _ => ⟨vs, ?_⟩, fun e_ => absurd e_ (by decide), fun e_ => absurd e_ (by decide)⟩
        rw [show nI ((hrN om gf i).pl s) - nI ((hrN om gf i).pl s) / 8 * 8 = nI ((hrN om gf i).pl s % 8) from pk_rem (d := 8) (by omega) (by omega) (by omega)]
        exact hh
      · exact ⟨fun e_ => absurd e_ (by decide), fun e_ => absurd e_ (by decide), fun _ => ⟨vs, hh⟩, fun e_ => absurd e_ (by decide)⟩
      · exact ⟨fun e_ => absurd e_ (by decide), fun e_ => absurd e_ (by decide), fun e_ => absurd e_ (by decide), fun _ => ⟨vs, vs, hh⟩⟩
    · refine ip_T x ?_
      have hw' : wh = 4 ∨ wh = 5 := by omega
      rcases hw' with e | e <;> subst e
      · exact ip_T' (by decide) (ip_sumOf hh)
      · exact ip_F' (by decide) (ip_sumOf hh)
  | succ m ih =>
    intro i hi ar1
    refine ip_F (nI_ge (by omega) (by omega)) ?_
    rw [nI_1]
    obtain ⟨t1, t2, t3, t4, t5, t6, t7, t8, t9, t10, t11⟩ := hrN_same (om := om) (g := gf) i
    have key := c_hour (Q := fun h1 g1 m1 d1 f1 l1 v1 p1 t1 a1 c1 e1 r1 => (wX10_ahead_67 QQ om (m + 1) (nI j) y2 (nI wh) x4 (nI (i + 1)) h1 (nI gf.size) (nI gf.rows) (nI gf.cols) gf.laid g1 m1 (nI w.g.hour) (nI w.g.size) (nI w.g.rows) (nI w.g.cols) w.g.laid w.g.grown w.g.melted d1 f1 l1 v1 gf.ord p1 gf.str t1 a1 c1 gf.fast e1 r1 gf.sea w.g.done w.g.fuel w.g.line w.g.moved w.g.ord w.g.place w.g.str w.g.told w.g.chan w.g.fast w.g.level w.g.ridged w.g.sea w.g.cold w.g.force w.g.way)) (om := om) (g := hrN om gf i) (ar := ar1) (Wf'.hrN i (by rw [a4]; omega)) (T.sameH (hrN_same i)) (by rw [hrN_hour, a4]; omega) (fun ar' => by rw [hrN_hour]; exact ih (i + 1) (by omega) ar')
    rw [hrN_hour, t3, t1, t2, t8, t7, t6, t5, t9, t11, t10, ec, ew, ef] at key
    exact key
theorem sim_ahead {om : Nat → Option OR} {all co le pi : Nat → Int32} {w : WH} (W : WfW w) (R : RW om all w) {y1 y2 y3 : Int32} {b1 b2 b3 b4 b5 b6 b7 : Int32} {c1 c2 c3 c4 c6 c7 c8 c9 c10 c11 c12 c13 c14 : Nat → Int32} {c5 : Nat → Option Nat} {K : Int32 → Int32 → Int32 → Int32 → Int32 → Int32 → Int32 → Int32 → (Nat → Int32) → (Nat → Int32) → (Nat → Int32) → (Nat → Int32) → (Nat → Option Nat) → (Nat → Int32) → (Nat → Int32) → (Nat → Int32) → (Nat → Int32) → (Nat → Int32) → (Nat → Int32) → (Nat → Int32) → (Nat → Int32) → (Nat → Int32) → Int32 → (Nat → Int32) → (Nat → Int32) → (Nat → Int32) → (Nat → Int32) → Prop}
    (hK : ∀ r b1 b2 b3 b4 b5 b6 b7 c1 c2 c3 c4 c5 c6 c7 c8 c9 c10 c11 c12 c13 c14 all' co' le' pi', Ok om all w all' → K r b1 b2 b3 b4 b5 b6 b7 c1 c2 c3 c4 c5 c6 c7 c8 c9 c10 c11 c12 c13 c14 r all' co' le' pi') :
    wX10_ahead (fun r b1 b2 b3 b4 b5 b6 b7 c1 c2 c3 c4 c5 c6 c7 c8 c9 c10 c11 c12 c13 c14 => wX11_ahead (fun r2 all' co' le' pi' => K r b1 b2 b3 b4 b5 b6 b7 c1 c2 c3 c4 c5 c6 c7 c8 c9 c10 c11 c12 c13 c14 r2 all' co' le' pi') y1 y2 y3 all co le pi) om y1 y2 y3 b1 b2 b3 b4 b5 b6 b7 (nI w.g.hour) (nI w.g.size) (nI w.g.rows) (nI w.g.cols) w.g.laid w.g.grown w.g.melted c1 c2 c3 c4 c5 c6 c7 c8 c9 c10 c11 c12 c13 c14 w.g.done w.g.fuel w.g.line w.g.moved w.g.ord w.g.place w.g.str w.g.told w.g.chan w.g.fast w.g.level w.g.ridged w.g.sea w.g.cold w.g.force w.g.way := by
  have s8 := W.g.s8
  have no : ∀ z1 z2 z3 : Int32, ((∀ j : Nat, 1 ≤ j → j ≤ 100 → z1 = nI j → 1000 < w.g.hour + j) ∨ inI z3 0 5 = 0 ∨ (∃ wh : Nat, wh ≤ 3 ∧ z3 = nI wh) ∧ (z2 < 0 ∨ nI w.g.size ≤ z2)) → wX11_ahead (fun r2 all' co' le' pi' => K (-2) b1 b2 b3 b4 b5 b6 b7 c1 c2 c3 c4 c5 c6 c7 c8 c9 c10 c11 c12 c13 c14 r2 all' co' le' pi') z1 z2 z3 all co le pi := fun z1 z2 z3 c => m_ahead_no W R (hK _ _ _ _ _ _ _ _ _ _ _ _ _ _ _ _ _ _ _ _ _ _ _ _ _ _ (Ok.same W R)) c
  unfold wX10_ahead
  simp only [p_within]
  refine c_canPass W.g.h1 (fun n => ip_T rfl (no _ _ _ (Or.inl n))) (fun j h1 h2 e hj => ip_F (by decide) (ip_split (fun c => no _ _ _ (Or.inr (Or.inl c))) (fun c => ?_)))
  obtain ⟨wh, -, hwh, ew, -⟩ := (inI_rng y3 0 5 (by omega) (by omega)).resolve_left c
  subst ew; subst e
  have i3 : (wh ≤ 3 ∧ ¬ inI (nI wh) 0 3 = 0) ∨ (4 ≤ wh ∧ inI (nI wh) 0 3 = 0) := by
    by_cases q : wh ≤ 3
    · refine Or.inl ⟨q, fun z => ?_⟩
      rw [inI_nz, show (0 : Int32) = nI 0 from rfl, show (3 : Int32) = nI 3 from rfl, nI_ltI (by omega) (by omega), nI_ltI (by omega) (by omega)] at z
      omega
    · refine Or.inr ⟨by omega, ?_⟩
      rw [inI_nz, show (0 : Int32) = nI 0 from rfl, show (3 : Int32) = nI 3 from rfl, nI_ltI (by omega) (by omega), nI_ltI (by omega) (by omega)]
      omega
  have body : ∀ s : Nat, (wh ≤ 3 → s < w.g.size ∧ y2 = nI s) → wX10_ahead_50 (fun r b1 b2 b3 b4 b5 b6 b7 c1 c2 c3 c4 c5 c6 c7 c8 c9 c10 c11 c12 c13 c14 => wX11_ahead (fun r2 all' co' le' pi' => K r b1 b2 b3 b4 b5 b6 b7 c1 c2 c3 c4 c5 c6 c7 c8 c9 c10 c11 c12 c13 c14 r2 all' co' le' pi') (nI j) y2 (nI wh) all co le pi) om (nI j) y2 (nI wh) (inI (nI wh) 0 3) b1 b2 b3 b4 b5 b6 b7 (nI w.g.hour) (nI w.g.size) (nI w.g.rows) (nI w.g.cols) w.g.laid w.g.grown w.g.melted c1 c2 c3 c4 c5 c6 c7 c8 c9 c10 c11 c12 c13 c14 w.g.done w.g.fuel w.g.line w.g.moved w.g.ord w.g.place w.g.str w.g.told w.g.chan w.g.fast w.g.level w.g.ridged w.g.sea w.g.cold w.g.force w.g.way := by
    intro s hs
    unfold wX10_ahead_50
    refine c_copyAll W.g R.g.od (fun gf A ec ew ef => ⟨j + 1, ?_⟩)
    have Rf : Rg om all gf := R.g.ag W.g A
    exact c_ahead_loop W A ec ew ef Rf.txs hwh hs i3 h2 hj (fun ar' => m_ahead W R A hwh hs h1 h2 hj (fun all' co' le' pi' ok => hK _ _ _ _ _ _ _ _ _ _ _ _ _ _ _ _ _ _ _ _ _ _ _ _ _ _ ok)) j 0 (by omega) c9
  refine ip_split (fun z => body 0 (fun q => ?_)) (fun z => ip_has (by omega) (fun n => ip_T' rfl (no _ _ _ (Or.inr (Or.inr ⟨⟨wh, ?_, rfl⟩, n⟩)))) (fun s hs e => ip_F' (by decide) (body s (fun _ => ⟨hs, e⟩))))
  · rcases i3 with i3 | i3
    · exact absurd z i3.2
    · omega
  · rcases i3 with i3 | i3
    · exact i3.1
    · exact absurd i3.2 z
