/-! PURE LEVEL 41: orders -/
theorem OrdR.ext {om om' : Nat → Option OR} {o : Option Nat} {n : Int32} {ln ac : Nat → Int32} (T : OrdR om o n ln ac) (h : ∀ a r, om a = some r → om' a = some r) : OrdR om' o n ln ac := by
  unfold OrdR at *
  cases o with
  | none => exact T
  | some a => obtain ⟨r, e1, e2, e3⟩ := T; exact ⟨r, h a r e1, e2, e3⟩
theorem Rg.ext {om om' : Nat → Option OR} {all : Nat → Int32} {g : GU} (R : Rg om all g) (h : ∀ a r, om a = some r → om' a = some r) : Rg om' all g :=
  Rg.mk' R.rows R.cols R.size R.hour R.laid R.grown R.melted R.sea R.level R.ridged R.chan R.fast R.str R.fuel R.prow R.pcol R.told R.moved R.line R.done (fun s hs => (R.ord s hs).ext h) R.cold R.way R.force (fun s hs a e => by
    obtain ⟨r, er⟩ := R.od s hs a e
    exact ⟨r, h a r er⟩)
theorem RW.ext {om om' : Nat → Option OR} {all : Nat → Int32} {w : WH} (R : RW om all w) (h : ∀ a r, om a = some r → om' a = some r) : RW om' all w :=
  RW.mk' (R.g.ext h) R.tlen R.tape R.fault R.place R.psize R.frm R.takes R.worth R.ssize R.settled
theorem FP.rw' {om : Nat → Option OR} {all al all' : Nat → Int32} {w : WH} {f p : Int32} (W : WfW w) (R : RW om all w) (h9 : al = upd (upd (upd all 9 0) 10 0) 11 (-1)) (F : FP al all' f p) : Ok om all ((w.g, (0), w.tape, (f), (p), w.psize, w.frm, w.takes, w.worth, w.ssize, w.settled) : WH) all' := by
  have hp := W.psize
  have hs := W.ssize
  have un : ∀ i, i ≠ 9 → i ≠ 10 → i ≠ 11 → all' i = all i := fun i h1 h2 h3 => by rw [F.1 i h2 h3, h9, pk_un h3, pk_un h2, pk_un h1]
  have e9 : all' 9 = 0 := by rw [F.1 9 (by omega) (by omega), h9, pk_un (by omega), pk_un (by omega), pk_us]
  refine ⟨(WfW.mk' (k_g := W.g) (k_tlen := Nat.zero_le _) (k_tape := fun i hi => absurd hi (Nat.not_lt_zero i)) (k_psize := W.psize) (k_frm := W.frm) (k_takes := W.takes) (k_worth := W.worth) (k_ssize := W.ssize)), ?_, fun i hi => un i (by omega) (by omega) (by omega)⟩
  exact RW.mk' (k_g := R.g.congr W.g.s8 (fun i hi => un i (by omega) (by omega) (by omega))) (k_tlen := e9) (k_tape := fun i hi => absurd hi (Nat.not_lt_zero i)) (k_fault := F.2.1) (k_place := F.2.2) (k_psize := (un _ (by omega) (by omega) (by omega)).trans R.psize) (k_frm := fun k hk => (un _ (by omega) (by omega) (by omega)).trans (R.frm k hk)) (k_takes := fun k hk => (un _ (by omega) (by omega) (by omega)).trans (R.takes k hk)) (k_worth := fun k hk => (un _ (by omega) (by omega) (by omega)).trans (R.worth k hk)) (k_ssize := (un _ (by omega) (by omega) (by omega)).trans R.ssize) (k_settled := fun k hk => (un _ (by omega) (by omega) (by omega)).trans (R.settled k hk))
theorem tx_of {ss : List Int32} {ls : List (Nat × Nat × Nat)} {st en ac nu ra rl : Nat → Int32} {g1 g2 g3 g4 : Nat → Int32} (hss : ss.length ≤ 200) (hls : ls.length ≤ 20) (LO : LsOk ss ls) (S : SpR 0 ss st st) (LC : LnC ls ac en nu) (A : AcS ss ra) (LM : LnM ls rl) (e1 : ∀ j, j < ss.length → g1 j = st j) (e2 : ∀ j, j < ls.length → g2 j = en j) (e3 : ∀ j, j < ls.length → g3 j = ac j) (e4 : ∀ j, j < ls.length → g4 j = nu j) : TxR ((ss.length, ls.length, g1, g2, g3, g4) : OR) rl ra := by
  have g1s : ∀ j, j < ss.length → g1 j = ss.getD j 0 := fun j hj => by
    have := S.2 j hj
    rw [Nat.zero_add] at this
    rw [e1 j hj, this]
  have eE : ∀ k, k < ls.length → g2 k = nI (lnT ls k) := fun k hk => by rw [e2 k hk]; exact (LC k hk (by omega)).1
  have bT : ∀ k, k < ls.length → lnT ls k ≤ 200 := fun k hk => by have := (LO.1 k hk).2.1; omega
  have eT : ∀ k, k < ls.length → oT ((ss.length, ls.length, g1, g2, g3, g4) : OR) k = lnT ls k := fun k hk => by
    show (g2 k).toNatClampNeg = _
    rw [eE k hk, nI_clamp (by have := bT k hk; omega)]
  have eF : ∀ k, k < ls.length → oF ((ss.length, ls.length, g1, g2, g3, g4) : OR) k = lnF ls k := fun k hk => by
    unfold oF lnF
    by_cases c : k = 0
    · rw [if_pos c, if_pos c]
    · rw [if_neg c, if_neg c]
      exact eT (k - 1) (by omega)
  refine TxR.mk' (TxOk.mk' (by show ss.length ≤ 260; omega) hls (fun k hk => ?_) (fun k hk q => ?_)) (fun k hk => ?_) (fun k hk => ?_) (fun k hk => ?_) (fun k hk => ?_) (fun i hi => ?_)
  · have hk' : k < ls.length := hk
    rw [eT k hk', eF k hk']
    exact ⟨eE k hk', (LO.1 k hk').1, (LO.1 k hk').2.1⟩
  · have hk' : k < ls.length := hk
    rw [eT k hk', eF k hk'] at q ⊢
    have b2 := (LO.1 k hk').2.1
    show depOk g1 (lnT ls k - lnF ls k) (lnF ls k) 0 = some 1
    rw [depOk_congr (h := fun j => ss.getD j 0) _ _ _ (fun j a d => g1s j (by omega))]
    exact (LO.1 k hk').2.2.1 q
  · have hk' : k < ls.length := hk
    rw [eT k hk', eF k hk']
    exact (LM k hk' (by omega)).1
  · have hk' : k < ls.length := hk
    rw [eT k hk']
    exact (LM k hk' (by omega)).2.1
  · have hk' : k < ls.length := hk
    refine ⟨(ls.getD k (0, 0, 0)).2.1, (LO.1 k hk').2.2.2.1, ?_, (LM k hk' (by omega)).2.2.1⟩
    show g3 k = _
    rw [e3 k hk']
    exact (LC k hk' (by omega)).2.1
  · have hk' : k < ls.length := hk
    show rl (4 * k + 3) = g4 k
    rw [e4 k hk', (LC k hk' (by omega)).2.2]
    exact (LM k hk' (by omega)).2.2.2
  · have hi' : i < ss.length := hi
    show StepR (g1 i) (ra (3 * i)) (ra (3 * i + 1)) (ra (3 * i + 2))
    rw [g1s i hi']
    exact A i hi'
theorem keA_ok {om om' : Nat → Option OR} {all al ra rl : Nat → Int32} {w : WH} {s m oa : Nat} {r : OR} (W : WfW w) (R : RW om all w) (hs : s < w.g.size) (h9 : al = upd (upd (upd all 9 0) 10 0) 11 (-1)) (hom : om oa = none) (ho' : om' = fun a => if a = oa then some r else om a) (hm : m = oL r) (T : TxR r rl ra) : Ok om' all (((((w.g.rows, w.g.cols, w.g.size, w.g.hour, w.g.laid, w.g.grown, w.g.melted, w.g.sea, w.g.fast, w.g.level, w.g.ridged, w.g.chan, w.g.str, w.g.fuel, w.g.place, w.g.told, w.g.moved, w.g.line, w.g.done, (va_up w.g.ord s (some oa)), w.g.cold, w.g.way, w.g.force) : GU)), (0), w.tape, (0), (-1), w.psize, w.frm, w.takes, w.worth, w.ssize, w.settled) : WH) (keA al rl ra s m) := by
  have hp := W.psize
  have hss := W.ssize
  have s8 := W.g.s8
  have ext : ∀ a r', om a = some r' → om' a = some r' := fun a r' e => by
    rw [ho']
    show (if a = oa then some r else om a) = some r'
    rw [if_neg (fun q => by rw [q, hom] at e; exact absurd e (by simp))]
    exact e
  have eoa : om' oa = some r := by rw [ho']; show (if oa = oa then some r else om oa) = some r; rw [if_pos rfl]
  have un : ∀ i, i ≠ 9 → i ≠ 10 → i ≠ 11 → i ≠ 360 + 12 * s + 8 → (i < 3460 + 80 * s ∨ 3460 + 80 * s + 80 ≤ i) → (i < 4100 + 780 * s ∨ 4100 + 780 * s + 780 ≤ i) → keA al rl ra s m i = all i := fun i h1 h2 h3 h4 h5 h6 => by
    unfold keA
    rw [pk_un h4, rF_out h6, rF_out h5, h9, pk_un h3, pk_un h2, pk_un h1]
  have lo : ∀ i, i < 12 → keA al rl ra s m i = al i := fun i hi => by
    unfold keA
    rw [pk_un (by omega), rF_out (by omega), rF_out (by omega)]
  have R0 := R.g
  refine ⟨?_, ?_, fun i hi => un i (by omega) (by omega) (by omega) (by omega) (by omega) (by omega)⟩
  · exact (WfW.mk' (k_g := (Wf.mk' (k_r1 := W.g.r1) (k_r8 := W.g.r8) (k_c1 := W.g.c1) (k_c8 := W.g.c8) (k_s8 := W.g.s8) (k_h1 := W.g.h1) (k_sea := W.g.sea) (k_fast := W.g.fast) (k_out := W.g.out) (k_chan := W.g.chan) (k_place := W.g.place) (k_dist := W.g.dist) (k_str := W.g.str) (k_done := W.g.done) (k_way := W.g.way) (k_force := W.g.force))) (k_tlen := Nat.zero_le _) (k_tape := fun i hi => absurd hi (Nat.not_lt_zero i)) (k_psize := W.psize) (k_frm := W.frm) (k_takes := W.takes) (k_worth := W.worth) (k_ssize := W.ssize))
  · refine RW.mk' (k_g := ?_) (k_tlen := by rw [lo 9 (by omega), h9, pk_un (by omega), pk_un (by omega), pk_us]; rfl) (k_tape := fun i hi => absurd hi (Nat.not_lt_zero i)) (k_fault := by rw [lo 10 (by omega), h9, pk_un (by omega), pk_us]) (k_place := by rw [lo 11 (by omega), h9, pk_us]) (k_psize := (un _ (by omega) (by omega) (by omega) (by omega) (by omega) (by omega)).trans R.psize) (k_frm := fun k (hk : k < w.psize) => (un _ (by omega) (by omega) (by omega) (by omega) (by omega) (by omega)).trans (R.frm k hk)) (k_takes := fun k (hk : k < w.psize) => (un _ (by omega) (by omega) (by omega) (by omega) (by omega) (by omega)).trans (R.takes k hk)) (k_worth := fun k (hk : k < w.psize) => (un _ (by omega) (by omega) (by omega) (by omega) (by omega) (by omega)).trans (R.worth k hk)) (k_ssize := (un _ (by omega) (by omega) (by omega) (by omega) (by omega) (by omega)).trans R.ssize) (k_settled := fun k (hk : k < w.ssize) => (un _ (by omega) (by omega) (by omega) (by omega) (by omega) (by omega)).trans (R.settled k hk))
    refine Rg.mk' (k_rows := (un _ (by omega) (by omega) (by omega) (by omega) (by omega) (by omega)).trans R0.rows) (k_cols := (un _ (by omega) (by omega) (by omega) (by omega) (by omega) (by omega)).trans R0.cols) (k_size := (un _ (by omega) (by omega) (by omega) (by omega) (by omega) (by omega)).trans R0.size) (k_hour := (un _ (by omega) (by omega) (by omega) (by omega) (by omega) (by omega)).trans R0.hour) (k_laid := (un _ (by omega) (by omega) (by omega) (by omega) (by omega) (by omega)).trans R0.laid) (k_grown := (un _ (by omega) (by omega) (by omega) (by omega) (by omega) (by omega)).trans R0.grown) (k_melted := (un _ (by omega) (by omega) (by omega) (by omega) (by omega) (by omega)).trans R0.melted)
      (k_sea := fun j hj hi => (un _ (by omega) (by omega) (by omega) (by omega) (by omega) (by omega)).trans (R0.sea j hj hi))
      (k_level := fun j hj => (un _ (by omega) (by omega) (by omega) (by omega) (by omega) (by omega)).trans (R0.level j hj))
      (k_ridged := fun j hj => (un _ (by omega) (by omega) (by omega) (by omega) (by omega) (by omega)).trans (R0.ridged j hj))
      (k_chan := fun j hj => (un _ (by omega) (by omega) (by omega) (by omega) (by omega) (by omega)).trans (R0.chan j hj))
      (k_fast := fun j hj hi => (un _ (by omega) (by omega) (by omega) (by omega) (by omega) (by omega)).trans (R0.fast j hj hi))
      (k_str := fun j (hj : j < w.g.size) => (un _ (by omega) (by omega) (by omega) (by omega) (by omega) (by omega)).trans (R0.str j hj))
      (k_fuel := fun j (hj : j < w.g.size) => (un _ (by omega) (by omega) (by omega) (by omega) (by omega) (by omega)).trans (R0.fuel j hj))
      (k_prow := fun j (hj : j < w.g.size) => (un _ (by omega) (by omega) (by omega) (by omega) (by omega) (by omega)).trans (R0.prow j hj))
      (k_pcol := fun j (hj : j < w.g.size) => (un _ (by omega) (by omega) (by omega) (by omega) (by omega) (by omega)).trans (R0.pcol j hj))
      (k_told := fun j (hj : j < w.g.size) => (un _ (by omega) (by omega) (by omega) (by omega) (by omega) (by omega)).trans (R0.told j hj))
      (k_moved := fun j (hj : j < w.g.size) => (un _ (by omega) (by omega) (by omega) (by omega) (by omega) (by omega)).trans (R0.moved j hj))
      (k_line := fun j (hj : j < w.g.size) => (un _ (by omega) (by omega) (by omega) (by omega) (by omega) (by omega)).trans (R0.line j hj))
      (k_done := fun j (hj : j < w.g.size) => (un _ (by omega) (by omega) (by omega) (by omega) (by omega) (by omega)).trans (R0.done j hj))
      (k_ord := fun j (hj : j < w.g.size) => ?_)
      (k_cold := fun j hj => (un _ (by omega) (by omega) (by omega) (by omega) (by omega) (by omega)).trans (R0.cold j hj))
      (k_way := fun j hj => (un _ (by omega) (by omega) (by omega) (by omega) (by omega) (by omega)).trans (R0.way j hj))
      (k_force := fun j hj => (un _ (by omega) (by omega) (by omega) (by omega) (by omega) (by omega)).trans (R0.force j hj))
      (k_od := fun j hj a e => ?_)
    · show OrdR om' (va_up w.g.ord s (some oa) j) _ _ _
      by_cases c : j = s
      · subst c
        rw [show va_up w.g.ord j (some oa) j = some oa from if_pos rfl]
        refine ⟨r, eoa, ?_, T.congr (fun k hk => ?_) (fun k hk => ?_)⟩
        · unfold keA
          rw [pk_us, hm]
        · unfold keA
          rw [pk_un (by omega), rF_out (by omega), rF_in (by omega) (by omega), show 3460 + 80 * j + k - (3460 + 80 * j) = k by omega]
        · unfold keA
          rw [pk_un (by omega), rF_in (by omega) (by omega), show 4100 + 780 * j + k - (4100 + 780 * j) = k by omega]
      · rw [show va_up w.g.ord s (some oa) j = w.g.ord j from if_neg c, un _ (by omega) (by omega) (by omega) (by omega) (by omega) (by omega)]
        exact ((R0.ord j hj).ext ext).congr (fun k hk => un _ (by omega) (by omega) (by omega) (by omega) (by omega) (by omega)) (fun k hk => un _ (by omega) (by omega) (by omega) (by omega) (by omega) (by omega))
    · by_cases c : j = s
      · subst c
        have e' : va_up w.g.ord j (some oa) j = some a := e
        rw [show va_up w.g.ord j (some oa) j = some oa from if_pos rfl] at e'
        have := Option.some.inj e'
        subst this
        exact ⟨r, eoa⟩
      · have e' : va_up w.g.ord s (some oa) j = some a := e
        rw [show va_up w.g.ord s (some oa) j = w.g.ord j from if_neg c] at e'
        obtain ⟨r', er⟩ := R0.od j hj a e'
        exact ⟨r', ext a r' er⟩
