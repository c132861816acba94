/-! PURE LEVEL 1: numbers, the picture of a gulf, the reference's row against it -/
theorem ip_lit (n : Nat) : (OfNat.ofNat n : Int32) = nI n := rfl
theorem ip_split {c A B : Prop} (h : c → A) (g : ¬ c → B) : (c → A) ∧ (¬ c → B) := ⟨h, g⟩
theorem ip_split' {c A B : Prop} (h : c → A) (g : ¬ c → B) : (¬ c → B) ∧ (c → A) := ⟨g, h⟩
theorem ip_T {c A B : Prop} (hc : c) (h : A) : (c → A) ∧ (¬ c → B) := ⟨fun _ => h, fun n => absurd hc n⟩
theorem ip_F {c A B : Prop} (hc : ¬ c) (h : B) : (c → A) ∧ (¬ c → B) := ⟨fun n => absurd n hc, fun _ => h⟩
theorem ip_T' {c A B : Prop} (hc : c) (h : A) : (¬ c → B) ∧ (c → A) := ⟨fun n => absurd hc n, fun _ => h⟩
theorem ip_F' {c A B : Prop} (hc : ¬ c) (h : B) : (¬ c → B) ∧ (c → A) := ⟨fun _ => h, fun n => absurd n hc⟩
/-- a truth as a number -/
def bI (p : Prop) [Decidable p] : Int32 := if p then 1 else 0
theorem bI_T {p : Prop} [Decidable p] (h : p) : bI p = 1 := if_pos h
theorem bI_F {p : Prop} [Decidable p] (h : ¬ p) : bI p = 0 := if_neg h
theorem bI_nar {p : Prop} [Decidable p] : narrow .boolean (.int (bI p)) = .int (bI p) := by
  unfold bI; split <;> rfl
theorem bI_fit {p : Prop} [Decidable p] : fits .boolean (.int (bI p)) = true := by
  unfold bI; split <;> rfl
theorem nar0 : narrow .boolean (.int 0) = .int 0 := rfl
theorem nar1 : narrow .boolean (.int 1) = .int 1 := rfl
theorem ip_nar {x : Int32} (h : x = 0 ∨ x = 1) : narrow .boolean (.int x) = .int x := by
  rcases h with h | h <;> subst h <;> rfl
theorem ip_in {x : Int32} (n N : Nat) (hx : x = nI n) (h : n < N) (hN : N < 2 ^ 31) : vp_in x N := by subst hx; exact vp_in_nI h hN
theorem ip_cl {x : Int32} (n : Nat) (hx : x = nI n) (h : n < 2 ^ 31) : x.toNatClampNeg = n := by subst hx; exact nI_clamp h
theorem ip_ofA (r c w : Nat) : (40 : Int32) + (5 : Int32) * ((8 : Int32) * nI r + nI c) + nI w = nI (40 + 5 * (8 * r + c) + w) := by
  simp only [ip_lit, pk_mul, nI_add]
theorem ip_itA (s w : Nat) : (360 : Int32) + (12 : Int32) * nI s + nI w = nI (360 + 12 * s + w) := by
  simp only [ip_lit, pk_mul, nI_add]
theorem ip_nneg {x : Int32} : ¬ x < 0 ↔ ∃ j : Nat, j < 2 ^ 31 ∧ x = nI j :=
  ⟨nI_of, fun ⟨j, hj, e⟩ => by subst e; exact nI_pos hj⟩
theorem ip_of {Q : Int32 → Prop} {all : Nat → Int32} (r c w : Nat) (hr : r < 8) (hc : c < 8) (hw : w < 5) (h : Q (all (40 + 5 * (8 * r + c) + w))) : wX11_of Q (nI r) (nI c) (nI w) all := by
  unfold wX11_of
  rw [ip_ofA, nI_clamp (by omega)]
  exact ⟨vp_in_nI (by omega) (by omega), h⟩
theorem ip_sets {Q : (Nat → Int32) → Prop} {all : Nat → Int32} {v : Int32} (r c w : Nat) (hr : r < 8) (hc : c < 8) (hw : w < 5) (h : Q (upd all (40 + 5 * (8 * r + c) + w) v)) : wX11_sets Q (nI r) (nI c) (nI w) v all := by
  unfold wX11_sets
  rw [ip_ofA, nI_clamp (by omega)]
  exact ⟨vp_in_nI (by omega) (by omega), h⟩
theorem ip_its {Q : Int32 → Prop} {all : Nat → Int32} (s w : Nat) (hs : s < 8) (hw : w < 12) (h : Q (all (360 + 12 * s + w))) : wX11_its Q (nI s) (nI w) all := by
  unfold wX11_its
  rw [ip_itA, nI_clamp (by omega)]
  exact ⟨vp_in_nI (by omega) (by omega), h⟩
theorem ip_ships {Q : (Nat → Int32) → Prop} {all : Nat → Int32} {v : Int32} (s w : Nat) (hs : s < 8) (hw : w < 12) (h : Q (upd all (360 + 12 * s + w) v)) : wX11_ships Q (nI s) (nI w) v all := by
  unfold wX11_ships
  rw [ip_itA, nI_clamp (by omega)]
  exact ⟨vp_in_nI (by omega) (by omega), h⟩
/-- the gulf with its ships and its weather -/
abbrev GU : Type := (Nat) × (Nat) × (Nat) × (Nat) × (Int32) × (Int32) × (Int32) × (Nat → Int32) × (Nat → Int32) × (Nat → Int32) × (Nat → Int32) × (Nat → Int32) × (Nat → Int32) × (Nat → Int32) × (Nat → Int32) × (Nat → Int32) × (Nat → Int32) × (Nat → Int32) × (Nat → Int32) × (Nat → Option Nat) × (Nat → Int32) × (Nat → Int32) × (Nat → Int32)
abbrev GU.rows (g : GU) : Nat := g.1
abbrev GU.cols (g : GU) : Nat := g.2.1
abbrev GU.size (g : GU) : Nat := g.2.2.1
abbrev GU.hour (g : GU) : Nat := g.2.2.2.1
abbrev GU.laid (g : GU) : Int32 := g.2.2.2.2.1
abbrev GU.grown (g : GU) : Int32 := g.2.2.2.2.2.1
abbrev GU.melted (g : GU) : Int32 := g.2.2.2.2.2.2.1
abbrev GU.sea (g : GU) : Nat → Int32 := g.2.2.2.2.2.2.2.1
abbrev GU.fast (g : GU) : Nat → Int32 := g.2.2.2.2.2.2.2.2.1
abbrev GU.level (g : GU) : Nat → Int32 := g.2.2.2.2.2.2.2.2.2.1
abbrev GU.ridged (g : GU) : Nat → Int32 := g.2.2.2.2.2.2.2.2.2.2.1
abbrev GU.chan (g : GU) : Nat → Int32 := g.2.2.2.2.2.2.2.2.2.2.2.1
abbrev GU.str (g : GU) : Nat → Int32 := g.2.2.2.2.2.2.2.2.2.2.2.2.1
abbrev GU.fuel (g : GU) : Nat → Int32 := g.2.2.2.2.2.2.2.2.2.2.2.2.2.1
abbrev GU.place (g : GU) : Nat → Int32 := g.2.2.2.2.2.2.2.2.2.2.2.2.2.2.1
abbrev GU.told (g : GU) : Nat → Int32 := g.2.2.2.2.2.2.2.2.2.2.2.2.2.2.2.1
abbrev GU.moved (g : GU) : Nat → Int32 := g.2.2.2.2.2.2.2.2.2.2.2.2.2.2.2.2.1
abbrev GU.line (g : GU) : Nat → Int32 := g.2.2.2.2.2.2.2.2.2.2.2.2.2.2.2.2.2.1
abbrev GU.done (g : GU) : Nat → Int32 := g.2.2.2.2.2.2.2.2.2.2.2.2.2.2.2.2.2.2.1
abbrev GU.ord (g : GU) : Nat → Option Nat := g.2.2.2.2.2.2.2.2.2.2.2.2.2.2.2.2.2.2.2.1
abbrev GU.cold (g : GU) : Nat → Int32 := g.2.2.2.2.2.2.2.2.2.2.2.2.2.2.2.2.2.2.2.2.1
abbrev GU.way (g : GU) : Nat → Int32 := g.2.2.2.2.2.2.2.2.2.2.2.2.2.2.2.2.2.2.2.2.2.1
abbrev GU.force (g : GU) : Nat → Int32 := g.2.2.2.2.2.2.2.2.2.2.2.2.2.2.2.2.2.2.2.2.2.2
def GU.pl (g : GU) (s : Nat) : Nat := (g.place s).toNatClampNeg
abbrev GU.ins (g : GU) (k : Nat) : Prop := k / 8 < g.rows ∧ k % 8 < g.cols
def Wf (g : GU) : Prop := (1 ≤ g.rows) ∧ (g.rows ≤ 8) ∧ (1 ≤ g.cols) ∧ (g.cols ≤ 8) ∧ (g.size ≤ 8) ∧ (g.hour ≤ 1000) ∧ (∀ k, k < 64 → g.sea k = 0 ∨ g.sea k = 1) ∧ (∀ k, k < 64 → g.fast k = 0 ∨ g.fast k = 1) ∧ (∀ k, k < 64 → ¬ g.ins k → g.sea k = 0 ∧ g.level k = 0 ∧ g.ridged k = 0 ∧ g.chan k = -1) ∧ (∀ k, k < 64 → g.chan k = -1 ∨ ∃ t : Nat, t ≤ 1000 ∧ g.chan k = nI t) ∧ (∀ s, s < g.size → g.place s = nI (g.pl s) ∧ g.pl s < 64 ∧ g.ins (g.pl s)) ∧ (∀ s t, s < g.size → t < g.size → g.pl s = g.pl t → s = t) ∧ (∀ s, s < g.size → ∃ t : Nat, t ≤ 200 ∧ g.str s = nI t) ∧ (∀ s, s < 8 → g.done s = 0 ∨ g.done s = 1) ∧ (∀ t, t < 1000 → ∃ w : Nat, w ≤ 3 ∧ g.way t = nI w) ∧ (∀ t, t < 1000 → ∃ w : Nat, w ≤ 50 ∧ g.force t = nI w)
theorem Wf.r1 {g : GU} (h_ : Wf g) : 1 ≤ g.rows := h_.1
theorem Wf.r8 {g : GU} (h_ : Wf g) : g.rows ≤ 8 := h_.2.1
theorem Wf.c1 {g : GU} (h_ : Wf g) : 1 ≤ g.cols := h_.2.2.1
theorem Wf.c8 {g : GU} (h_ : Wf g) : g.cols ≤ 8 := h_.2.2.2.1
theorem Wf.s8 {g : GU} (h_ : Wf g) : g.size ≤ 8 := h_.2.2.2.2.1
theorem Wf.h1 {g : GU} (h_ : Wf g) : g.hour ≤ 1000 := h_.2.2.2.2.2.1
theorem Wf.sea {g : GU} (h_ : Wf g) : ∀ k, k < 64 → g.sea k = 0 ∨ g.sea k = 1 := h_.2.2.2.2.2.2.1
theorem Wf.fast {g : GU} (h_ : Wf g) : ∀ k, k < 64 → g.fast k = 0 ∨ g.fast k = 1 := h_.2.2.2.2.2.2.2.1
theorem Wf.out {g : GU} (h_ : Wf g) : ∀ k, k < 64 → ¬ g.ins k → g.sea k = 0 ∧ g.level k = 0 ∧ g.ridged k = 0 ∧ g.chan k = -1 := h_.2.2.2.2.2.2.2.2.1
theorem Wf.chan {g : GU} (h_ : Wf g) : ∀ k, k < 64 → g.chan k = -1 ∨ ∃ t : Nat, t ≤ 1000 ∧ g.chan k = nI t := h_.2.2.2.2.2.2.2.2.2.1
theorem Wf.place {g : GU} (h_ : Wf g) : ∀ s, s < g.size → g.place s = nI (g.pl s) ∧ g.pl s < 64 ∧ g.ins (g.pl s) := h_.2.2.2.2.2.2.2.2.2.2.1
theorem Wf.dist {g : GU} (h_ : Wf g) : ∀ s t, s < g.size → t < g.size → g.pl s = g.pl t → s = t := h_.2.2.2.2.2.2.2.2.2.2.2.1
theorem Wf.str {g : GU} (h_ : Wf g) : ∀ s, s < g.size → ∃ t : Nat, t ≤ 200 ∧ g.str s = nI t := h_.2.2.2.2.2.2.2.2.2.2.2.2.1
theorem Wf.done {g : GU} (h_ : Wf g) : ∀ s, s < 8 → g.done s = 0 ∨ g.done s = 1 := h_.2.2.2.2.2.2.2.2.2.2.2.2.2.1
theorem Wf.way {g : GU} (h_ : Wf g) : ∀ t, t < 1000 → ∃ w : Nat, w ≤ 3 ∧ g.way t = nI w := h_.2.2.2.2.2.2.2.2.2.2.2.2.2.2.1
theorem Wf.force {g : GU} (h_ : Wf g) : ∀ t, t < 1000 → ∃ w : Nat, w ≤ 50 ∧ g.force t = nI w := h_.2.2.2.2.2.2.2.2.2.2.2.2.2.2.2
theorem Wf.mk' {g : GU} (k_r1 : 1 ≤ g.rows) (k_r8 : g.rows ≤ 8) (k_c1 : 1 ≤ g.cols) (k_c8 : g.cols ≤ 8) (k_s8 : g.size ≤ 8) (k_h1 : g.hour ≤ 1000) (k_sea : ∀ k, k < 64 → g.sea k = 0 ∨ g.sea k = 1) (k_fast : ∀ k, k < 64 → g.fast k = 0 ∨ g.fast k = 1) (k_out : ∀ k, k < 64 → ¬ g.ins k → g.sea k = 0 ∧ g.level k = 0 ∧ g.ridged k = 0 ∧ g.chan k = -1) (k_chan : ∀ k, k < 64 → g.chan k = -1 ∨ ∃ t : Nat, t ≤ 1000 ∧ g.chan k = nI t) (k_place : ∀ s, s < g.size → g.place s = nI (g.pl s) ∧ g.pl s < 64 ∧ g.ins (g.pl s)) (k_dist : ∀ s t, s < g.size → t < g.size → g.pl s = g.pl t → s = t) (k_str : ∀ s, s < g.size → ∃ t : Nat, t ≤ 200 ∧ g.str s = nI t) (k_done : ∀ s, s < 8 → g.done s = 0 ∨ g.done s = 1) (k_way : ∀ t, t < 1000 → ∃ w : Nat, w ≤ 3 ∧ g.way t = nI w) (k_force : ∀ t, t < 1000 → ∃ w : Nat, w ≤ 50 ∧ g.force t = nI w) : Wf g := ⟨k_r1, k_r8, k_c1, k_c8, k_s8, k_h1, k_sea, k_fast, k_out, k_chan, k_place, k_dist, k_str, k_done, k_way, k_force⟩
/-- the reference's words, by the class's: of the parts of a comparison, of the acts, of a step -/
def wordR (x : Nat) : Nat := if x < 4 then x + 8 else if x < 12 then x - 4 else if x = 12 then 12 else if x < 16 then x + 11 else x + 14
def StepR (a b c d : Int32) : Prop := (a = -1 ∧ b = 33 ∧ c = 0 ∧ d = 0) ∨ (a = -2 ∧ b = 32 ∧ c = 0 ∧ d = 0) ∨ (a = -3 ∧ b = 31 ∧ c = 0 ∧ d = 0) ∨ ∃ w sg n : Nat, w ≤ 12 ∧ (sg = 61 ∨ sg = 60 ∨ sg = 62) ∧ n ≤ 9999 ∧ a = nI (w * 4194304 + sg * 16384 + n) ∧ b = nI (wordR w) ∧ c = nI sg ∧ d = nI n
/-- what the open answers of some steps are, by their number: depth behind m steps from d, never below 1, never above 20 -/
def depOk (st : Nat → Int32) : Nat → Nat → Nat → Option Nat
  | 0, _, d => some d
  | m + 1, i, d => if st i = -1 then (if 1 ≤ d then depOk st m (i + 1) d else none) else if st i = -2 ∨ st i = -3 then (if 2 ≤ d then depOk st m (i + 1) (d - 1) else none) else if d < 20 then depOk st m (i + 1) (d + 1) else none
def oF (r : OR) (k : Nat) : Nat := if k = 0 then 0 else (oE r (k - 1)).toNatClampNeg
def oT (r : OR) (k : Nat) : Nat := (oE r k).toNatClampNeg
def TxOk (r : OR) : Prop := (oN r ≤ 260) ∧ (oL r ≤ 20) ∧ (∀ k, k < oL r → oE r k = nI (oT r k) ∧ oF r k ≤ oT r k ∧ oT r k ≤ oN r) ∧ (∀ k, k < oL r → oF r k < oT r k → depOk (oS r) (oT r k - oF r k) (oF r k) 0 = some 1)
theorem TxOk.n {r : OR} (h_ : TxOk r) : oN r ≤ 260 := h_.1
theorem TxOk.l {r : OR} (h_ : TxOk r) : oL r ≤ 20 := h_.2.1
theorem TxOk.e {r : OR} (h_ : TxOk r) : ∀ k, k < oL r → oE r k = nI (oT r k) ∧ oF r k ≤ oT r k ∧ oT r k ≤ oN r := h_.2.2.1
theorem TxOk.d {r : OR} (h_ : TxOk r) : ∀ k, k < oL r → oF r k < oT r k → depOk (oS r) (oT r k - oF r k) (oF r k) 0 = some 1 := h_.2.2.2
theorem TxOk.mk' {r : OR} (k_n : oN r ≤ 260) (k_l : oL r ≤ 20) (k_e : ∀ k, k < oL r → oE r k = nI (oT r k) ∧ oF r k ≤ oT r k ∧ oT r k ≤ oN r) (k_d : ∀ k, k < oL r → oF r k < oT r k → depOk (oS r) (oT r k - oF r k) (oF r k) 0 = some 1) : TxOk r := ⟨k_n, k_l, k_e, k_d⟩
def TxR (r : OR) (ln ac : Nat → Int32) : Prop := (TxOk r) ∧ (∀ k, k < oL r → ln (4 * k) = if oF r k = oT r k then -1 else nI (oF r k)) ∧ (∀ k, k < oL r → ln (4 * k + 1) = nI (oT r k)) ∧ (∀ k, k < oL r → ∃ w : Nat, (w < 4 ∨ w = 13 ∨ w = 14 ∨ w = 15) ∧ oA r k = nI w ∧ ln (4 * k + 2) = nI (wordR w)) ∧ (∀ k, k < oL r → ln (4 * k + 3) = oM r k) ∧ (∀ i, i < oN r → StepR (oS r i) (ac (3 * i)) (ac (3 * i + 1)) (ac (3 * i + 2)))
theorem TxR.ok {r : OR} {ln ac : Nat → Int32} (h_ : TxR r ln ac) : TxOk r := h_.1
theorem TxR.frm {r : OR} {ln ac : Nat → Int32} (h_ : TxR r ln ac) : ∀ k, k < oL r → ln (4 * k) = if oF r k = oT r k then -1 else nI (oF r k) := h_.2.1
theorem TxR.til {r : OR} {ln ac : Nat → Int32} (h_ : TxR r ln ac) : ∀ k, k < oL r → ln (4 * k + 1) = nI (oT r k) := h_.2.2.1
theorem TxR.act {r : OR} {ln ac : Nat → Int32} (h_ : TxR r ln ac) : ∀ k, k < oL r → ∃ w : Nat, (w < 4 ∨ w = 13 ∨ w = 14 ∨ w = 15) ∧ oA r k = nI w ∧ ln (4 * k + 2) = nI (wordR w) := h_.2.2.2.1
theorem TxR.num {r : OR} {ln ac : Nat → Int32} (h_ : TxR r ln ac) : ∀ k, k < oL r → ln (4 * k + 3) = oM r k := h_.2.2.2.2.1
theorem TxR.st {r : OR} {ln ac : Nat → Int32} (h_ : TxR r ln ac) : ∀ i, i < oN r → StepR (oS r i) (ac (3 * i)) (ac (3 * i + 1)) (ac (3 * i + 2)) := h_.2.2.2.2.2
theorem TxR.mk' {r : OR} {ln ac : Nat → Int32} (k_ok : TxOk r) (k_frm : ∀ k, k < oL r → ln (4 * k) = if oF r k = oT r k then -1 else nI (oF r k)) (k_til : ∀ k, k < oL r → ln (4 * k + 1) = nI (oT r k)) (k_act : ∀ k, k < oL r → ∃ w : Nat, (w < 4 ∨ w = 13 ∨ w = 14 ∨ w = 15) ∧ oA r k = nI w ∧ ln (4 * k + 2) = nI (wordR w)) (k_num : ∀ k, k < oL r → ln (4 * k + 3) = oM r k) (k_st : ∀ i, i < oN r → StepR (oS r i) (ac (3 * i)) (ac (3 * i + 1)) (ac (3 * i + 2))) : TxR r ln ac := ⟨k_ok, k_frm, k_til, k_act, k_num, k_st⟩
def OrdR (om : Nat → Option OR) (o : Option Nat) (n : Int32) (ln ac : Nat → Int32) : Prop :=
  match o with
  | none => n = 0
  | some a => ∃ r, om a = some r ∧ n = nI (oL r) ∧ TxR r ln ac
/-- the reference's row shows this gulf -/
def Rg (om : Nat → Option OR) (all : Nat → Int32) (g : GU) : Prop := (all 0 = nI g.rows) ∧ (all 1 = nI g.cols) ∧ (all 2 = nI g.size) ∧ (all 3 = nI g.hour) ∧ (all 4 = g.laid) ∧ (all 5 = g.grown) ∧ (all 6 = g.melted) ∧ (∀ k, k < 64 → g.ins k → all (40 + 5 * k) = g.sea k) ∧ (∀ k, k < 64 → all (40 + 5 * k + 1) = g.level k) ∧ (∀ k, k < 64 → all (40 + 5 * k + 2) = g.ridged k) ∧ (∀ k, k < 64 → all (40 + 5 * k + 3) = g.chan k) ∧ (∀ k, k < 64 → g.ins k → all (40 + 5 * k + 4) = g.fast k) ∧ (∀ s, s < g.size → all (360 + 12 * s) = g.str s) ∧ (∀ s, s < g.size → all (360 + 12 * s + 1) = g.fuel s) ∧ (∀ s, s < g.size → all (360 + 12 * s + 2) = nI (g.pl s / 8)) ∧ (∀ s, s < g.size → all (360 + 12 * s + 3) = nI (g.pl s % 8)) ∧ (∀ s, s < g.size → all (360 + 12 * s + 4) = g.told s) ∧ (∀ s, s < g.size → all (360 + 12 * s + 5) = g.moved s) ∧ (∀ s, s < g.size → all (360 + 12 * s + 6) = g.line s) ∧ (∀ s, s < g.size → all (360 + 12 * s + 7) = g.done s) ∧ (∀ s, s < g.size → OrdR om (g.ord s) (all (360 + 12 * s + 8)) (fun k => all (3460 + 80 * s + k)) (fun k => all (4100 + 780 * s + k))) ∧ (∀ t, t < 1000 → all (460 + 3 * t) = g.cold t) ∧ (∀ t, t < 1000 → all (460 + 3 * t + 1) = g.way t) ∧ (∀ t, t < 1000 → all (460 + 3 * t + 2) = g.force t) ∧ (∀ s, s < 8 → ∀ a, g.ord s = some a → ∃ r, om a = some r)
theorem Rg.rows {om : Nat → Option OR} {all : Nat → Int32} {g : GU} (h_ : Rg om all g) : all 0 = nI g.rows := h_.1
theorem Rg.cols {om : Nat → Option OR} {all : Nat → Int32} {g : GU} (h_ : Rg om all g) : all 1 = nI g.cols := h_.2.1
theorem Rg.size {om : Nat → Option OR} {all : Nat → Int32} {g : GU} (h_ : Rg om all g) : all 2 = nI g.size := h_.2.2.1
theorem Rg.hour {om : Nat → Option OR} {all : Nat → Int32} {g : GU} (h_ : Rg om all g) : all 3 = nI g.hour := h_.2.2.2.1
theorem Rg.laid {om : Nat → Option OR} {all : Nat → Int32} {g : GU} (h_ : Rg om all g) : all 4 = g.laid := h_.2.2.2.2.1
theorem Rg.grown {om : Nat → Option OR} {all : Nat → Int32} {g : GU} (h_ : Rg om all g) : all 5 = g.grown := h_.2.2.2.2.2.1
theorem Rg.melted {om : Nat → Option OR} {all : Nat → Int32} {g : GU} (h_ : Rg om all g) : all 6 = g.melted := h_.2.2.2.2.2.2.1
theorem Rg.sea {om : Nat → Option OR} {all : Nat → Int32} {g : GU} (h_ : Rg om all g) : ∀ k, k < 64 → g.ins k → all (40 + 5 * k) = g.sea k := h_.2.2.2.2.2.2.2.1
theorem Rg.level {om : Nat → Option OR} {all : Nat → Int32} {g : GU} (h_ : Rg om all g) : ∀ k, k < 64 → all (40 + 5 * k + 1) = g.level k := h_.2.2.2.2.2.2.2.2.1
theorem Rg.ridged {om : Nat → Option OR} {all : Nat → Int32} {g : GU} (h_ : Rg om all g) : ∀ k, k < 64 → all (40 + 5 * k + 2) = g.ridged k := h_.2.2.2.2.2.2.2.2.2.1
theorem Rg.chan {om : Nat → Option OR} {all : Nat → Int32} {g : GU} (h_ : Rg om all g) : ∀ k, k < 64 → all (40 + 5 * k + 3) = g.chan k := h_.2.2.2.2.2.2.2.2.2.2.1
theorem Rg.fast {om : Nat → Option OR} {all : Nat → Int32} {g : GU} (h_ : Rg om all g) : ∀ k, k < 64 → g.ins k → all (40 + 5 * k + 4) = g.fast k := h_.2.2.2.2.2.2.2.2.2.2.2.1
theorem Rg.str {om : Nat → Option OR} {all : Nat → Int32} {g : GU} (h_ : Rg om all g) : ∀ s, s < g.size → all (360 + 12 * s) = g.str s := h_.2.2.2.2.2.2.2.2.2.2.2.2.1
theorem Rg.fuel {om : Nat → Option OR} {all : Nat → Int32} {g : GU} (h_ : Rg om all g) : ∀ s, s < g.size → all (360 + 12 * s + 1) = g.fuel s := h_.2.2.2.2.2.2.2.2.2.2.2.2.2.1
theorem Rg.prow {om : Nat → Option OR} {all : Nat → Int32} {g : GU} (h_ : Rg om all g) : ∀ s, s < g.size → all (360 + 12 * s + 2) = nI (g.pl s / 8) := h_.2.2.2.2.2.2.2.2.2.2.2.2.2.2.1
theorem Rg.pcol {om : Nat → Option OR} {all : Nat → Int32} {g : GU} (h_ : Rg om all g) : ∀ s, s < g.size → all (360 + 12 * s + 3) = nI (g.pl s % 8) := h_.2.2.2.2.2.2.2.2.2.2.2.2.2.2.2.1
theorem Rg.told {om : Nat → Option OR} {all : Nat → Int32} {g : GU} (h_ : Rg om all g) : ∀ s, s < g.size → all (360 + 12 * s + 4) = g.told s := h_.2.2.2.2.2.2.2.2.2.2.2.2.2.2.2.2.1
theorem Rg.moved {om : Nat → Option OR} {all : Nat → Int32} {g : GU} (h_ : Rg om all g) : ∀ s, s < g.size → all (360 + 12 * s + 5) = g.moved s := h_.2.2.2.2.2.2.2.2.2.2.2.2.2.2.2.2.2.1
theorem Rg.line {om : Nat → Option OR} {all : Nat → Int32} {g : GU} (h_ : Rg om all g) : ∀ s, s < g.size → all (360 + 12 * s + 6) = g.line s := h_.2.2.2.2.2.2.2.2.2.2.2.2.2.2.2.2.2.2.1
theorem Rg.done {om : Nat → Option OR} {all : Nat → Int32} {g : GU} (h_ : Rg om all g) : ∀ s, s < g.size → all (360 + 12 * s + 7) = g.done s := h_.2.2.2.2.2.2.2.2.2.2.2.2.2.2.2.2.2.2.2.1
theorem Rg.ord {om : Nat → Option OR} {all : Nat → Int32} {g : GU} (h_ : Rg om all g) : ∀ s, s < g.size → OrdR om (g.ord s) (all (360 + 12 * s + 8)) (fun k => all (3460 + 80 * s + k)) (fun k => all (4100 + 780 * s + k)) := h_.2.2.2.2.2.2.2.2.2.2.2.2.2.2.2.2.2.2.2.2.1
theorem Rg.cold {om : Nat → Option OR} {all : Nat → Int32} {g : GU} (h_ : Rg om all g) : ∀ t, t < 1000 → all (460 + 3 * t) = g.cold t := h_.2.2.2.2.2.2.2.2.2.2.2.2.2.2.2.2.2.2.2.2.2.1
theorem Rg.way {om : Nat → Option OR} {all : Nat → Int32} {g : GU} (h_ : Rg om all g) : ∀ t, t < 1000 → all (460 + 3 * t + 1) = g.way t := h_.2.2.2.2.2.2.2.2.2.2.2.2.2.2.2.2.2.2.2.2.2.2.1
theorem Rg.force {om : Nat → Option OR} {all : Nat → Int32} {g : GU} (h_ : Rg om all g) : ∀ t, t < 1000 → all (460 + 3 * t + 2) = g.force t := h_.2.2.2.2.2.2.2.2.2.2.2.2.2.2.2.2.2.2.2.2.2.2.2.1
theorem Rg.od {om : Nat → Option OR} {all : Nat → Int32} {g : GU} (h_ : Rg om all g) : ∀ s, s < 8 → ∀ a, g.ord s = some a → ∃ r, om a = some r := h_.2.2.2.2.2.2.2.2.2.2.2.2.2.2.2.2.2.2.2.2.2.2.2.2
theorem Rg.mk' {om : Nat → Option OR} {all : Nat → Int32} {g : GU} (k_rows : all 0 = nI g.rows) (k_cols : all 1 = nI g.cols) (k_size : all 2 = nI g.size) (k_hour : all 3 = nI g.hour) (k_laid : all 4 = g.laid) (k_grown : all 5 = g.grown) (k_melted : all 6 = g.melted) (k_sea : ∀ k, k < 64 → g.ins k → all (40 + 5 * k) = g.sea k) (k_level : ∀ k, k < 64 → all (40 + 5 * k + 1) = g.level k) (k_ridged : ∀ k, k < 64 → all (40 + 5 * k + 2) = g.ridged k) (k_chan : ∀ k, k < 64 → all (40 + 5 * k + 3) = g.chan k) (k_fast : ∀ k, k < 64 → g.ins k → all (40 + 5 * k + 4) = g.fast k) (k_str : ∀ s, s < g.size → all (360 + 12 * s) = g.str s) (k_fuel : ∀ s, s < g.size → all (360 + 12 * s + 1) = g.fuel s) (k_prow : ∀ s, s < g.size → all (360 + 12 * s + 2) = nI (g.pl s / 8)) (k_pcol : ∀ s, s < g.size → all (360 + 12 * s + 3) = nI (g.pl s % 8)) (k_told : ∀ s, s < g.size → all (360 + 12 * s + 4) = g.told s) (k_moved : ∀ s, s < g.size → all (360 + 12 * s + 5) = g.moved s) (k_line : ∀ s, s < g.size → all (360 + 12 * s + 6) = g.line s) (k_done : ∀ s, s < g.size → all (360 + 12 * s + 7) = g.done s) (k_ord : ∀ s, s < g.size → OrdR om (g.ord s) (all (360 + 12 * s + 8)) (fun k => all (3460 + 80 * s + k)) (fun k => all (4100 + 780 * s + k))) (k_cold : ∀ t, t < 1000 → all (460 + 3 * t) = g.cold t) (k_way : ∀ t, t < 1000 → all (460 + 3 * t + 1) = g.way t) (k_force : ∀ t, t < 1000 → all (460 + 3 * t + 2) = g.force t) (k_od : ∀ s, s < 8 → ∀ a, g.ord s = some a → ∃ r, om a = some r) : Rg om all g := ⟨k_rows, k_cols, k_size, k_hour, k_laid, k_grown, k_melted, k_sea, k_level, k_ridged, k_chan, k_fast, k_str, k_fuel, k_prow, k_pcol, k_told, k_moved, k_line, k_done, k_ord, k_cold, k_way, k_force, k_od⟩
