/-! PURE LEVEL 45: the start -/
def gu0 : GU := (0, 0, 0, 0, 0, 0, 0, (fun _ => 0), (fun _ => 0), (fun _ => 0), (fun _ => 0), (fun _ => 0), (fun _ => 0), (fun _ => 0), (fun _ => 0), (fun _ => 0), (fun _ => 0), (fun _ => 0), (fun _ => 0), (fun _ => none), (fun _ => 0), (fun _ => 0), (fun _ => 0))
def WH.start : WH := (gu0.beg 1 1, 0, (fun _ => 0), 0, -1, 0, (fun _ => 0), (fun _ => 0), (fun _ => 0), 0, (fun _ => 0))
theorem WfW.start : WfW WH.start := by
  have W : Wf (gu0.beg 1 1) := Wf.beg (by omega) (by omega) (by omega) (by omega) (fun s _ => Or.inl rfl)
  exact WfW.mk' (k_g := W) (k_tlen := show (0 : Nat) ≤ 400 by omega) (k_tape := fun i (h : i < 0) => absurd h (by omega)) (k_psize := show (0 : Nat) ≤ 6 by omega) (k_frm := fun i (h : i < 0) => absurd h (by omega)) (k_takes := fun i (h : i < 0) => absurd h (by omega)) (k_worth := fun i (h : i < 0) => absurd h (by omega)) (k_ssize := show (0 : Nat) ≤ 6 by omega)
theorem sim_init {om : Nat → Option OR} {K : Int32 → (Nat → Int32) → (Nat → Int32) → (Nat → Int32) → Int32 → Int32 → Int32 → Int32 → Int32 → (Nat → Int32) → (Nat → Int32) → (Nat → Int32) → (Nat → Int32) → (Nat → Int32) → Int32 → (Nat → Int32) → Prop}
    (hK : ∀ all, RW om all WH.start → K (nI WH.start.g.hour) WH.start.g.cold WH.start.g.way WH.start.g.force (nI WH.start.g.rows) (nI WH.start.g.cols) WH.start.g.laid WH.start.g.grown WH.start.g.melted WH.start.g.sea WH.start.g.fast WH.start.g.level WH.start.g.ridged WH.start.g.chan (nI WH.start.g.size) all) :
    wX10_init (fun a1 a2 a3 a4 a5 a6 a7 a8 a9 a10 a11 a12 a13 a14 a15 => wX11_init (fun all => K a1 a2 a3 a4 a5 a6 a7 a8 a9 a10 a11 a12 a13 a14 a15 all)) := by
  unfold wX10_init
  refine ip_begin (R := 1) (C := 1) (g := gu0) (by omega) (by omega) ?_
  unfold wX11_init
  refine ip_begins ?_
  have hod : ∀ s, s < 8 → ∀ a, gu0.ord s = some a → ∃ r, om a = some r := fun s _ a e => by cases e
  have G : Rg om (begA (upd (fun _ => 0) 11 (-1)) (nI 1) (nI 1)) (gu0.beg 1 1) := Rg.beg hod
  exact hK _ (RW.mk' (k_g := G) (k_tlen := begA_un _ (by omega)) (k_tape := fun i (h : i < 0) => absurd h (by omega)) (k_fault := begA_un _ (by omega)) (k_place := begA_un _ (by omega)) (k_psize := begA_un _ (by omega)) (k_frm := fun i (h : i < 0) => absurd h (by omega)) (k_takes := fun i (h : i < 0) => absurd h (by omega)) (k_worth := fun i (h : i < 0) => absurd h (by omega)) (k_ssize := begA_un _ (by omega)) (k_settled := fun i (h : i < 0) => absurd h (by omega)))
