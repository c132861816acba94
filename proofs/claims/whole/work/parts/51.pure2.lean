/-! PURE LEVEL 1: numbers, the picture of a gulf, the reference's row against it -/
theorem ip_lit (n : Nat) : (OfNat.ofNat n : Int32) = nI n := rfl
theorem ip_split {c A B : Prop} (h : c → A) (g : ¬ c → B) : (c → A) ∧ (¬ c → B) := ⟨h, g⟩
theorem ip_split' {c A B : Prop} (h : c → A) (g : ¬ c → B) : (¬ c → B) ∧ (c → A) := ⟨g, h⟩
theorem ip_T {c A B : Prop} (hc : c) (h : A) : (c → A) ∧ (¬ c → B) := ⟨fun _ => h, fun n => absurd hc n⟩
theorem ip_F {c A B : Prop} (hc : ¬ c) (h : B) : (c → A) ∧ (¬ c → B) := ⟨fun n => absurd n hc, fun _ => h⟩
theorem ip_T' {c A B : Prop} (hc : c) (h : A) : (¬ c → B) ∧ (c → A) := ⟨fun n => absurd hc n, fun _ => h⟩
theorem ip_F' {c A B : Prop} (hc : ¬ c) (h : B) : (¬ c → B) ∧ (c → A) := ⟨fun _ => h, fun n => absurd n hc⟩
/-- a truth as a number -/
def bI (p : Prop) [Decidable p] : Int32 := if p then 1 else 0
theorem bI_T {p : Prop} [Decidable p] (h : p) : bI p = 1 := if_pos h
theorem bI_F {p : Prop} [Decidable p] (h : ¬ p) : bI p = 0 := if_neg h
theorem bI_nar {p : Prop} [Decidable p] : narrow .boolean (.int (bI p)) = .int (bI p) := by
  unfold bI; split <;> rfl
theorem bI_fit {p : Prop} [Decidable p] : fits .boolean (.int (bI p)) = true := by
  unfold bI; split <;> rfl
theorem nar0 : narrow .boolean (.int 0) = .int 0 := rfl
theorem nar1 : narrow .boolean (.int 1) = .int 1 := rfl
theorem ip_nar {x : Int32} (h : x = 0 ∨ x = 1) : narrow .boolean (.int x) = .int x := by
  rcases h with h | h <;> subst h <;> rfl
theorem ip_in {x : Int32} (n N : Nat) (hx : x = nI n) (h : n < N) (hN : N < 2 ^ 31) : vp_in x N := by subst hx; exact vp_in_nI h hN
theorem ip_cl {x : Int32} (n : Nat) (hx : x = nI n) (h : n < 2 ^ 31) : x.toNatClampNeg = n := by subst hx; exact nI_clamp h
theorem ip_ofA (r c w : Nat) : (40 : Int32) + (5 : Int32) * ((8 : Int32) * nI r + nI c) + nI w = nI (40 + 5 * (8 * r + c) + w) := by
  simp only [ip_lit, pk_mul, nI_add]
theorem ip_itA (s w : Nat) : (360 : Int32) + (12 : Int32) * nI s + nI w = nI (360 + 12 * s + w) := by
  simp only [ip_lit, pk_mul, nI_add]
theorem ip_nneg {x : Int32} : ¬ x < 0 ↔ ∃ j : Nat, j < 2 ^ 31 ∧ x = nI j :=
  ⟨nI_of, fun ⟨j, hj, e⟩ => by subst e; exact nI_pos hj⟩
theorem ip_of {Q : Int32 → Prop} {all : Nat → Int32} (r c w : Nat) (hr : r < 8) (hc : c < 8) (hw : w < 5) (h : Q (all (40 + 5 * (8 * r + c) + w))) : wX11_of Q (nI r) (nI c) (nI w) all := by
  unfold wX11_of
  rw [ip_ofA, nI_clamp (by omega)]
  exact ⟨vp_in_nI (by omega) (by omega), h⟩
theorem ip_sets {Q : (Nat → Int32) → Prop} {all : Nat → Int32} {v : Int32} (r c w : Nat) (hr : r < 8) (hc : c < 8) (hw : w < 5) (h : Q (upd all (40 + 5 * (8 * r + c) + w) v)) : wX11_sets Q (nI r) (nI c) (nI w) v all := by
  unfold wX11_sets
  rw [ip_ofA, nI_clamp (by omega)]
  exact ⟨vp_in_nI (by omega) (by omega), h⟩
theorem ip_its {Q : Int32 → Prop} {all : Nat → Int32} (s w : Nat) (hs : s < 8) (hw : w < 12) (h : Q (all (360 + 12 * s + w))) : wX11_its Q (nI s) (nI w) all := by
  unfold wX11_its
  rw [ip_itA, nI_clamp (by omega)]
  exact ⟨vp_in_nI (by omega) (by omega), h⟩
theorem ip_ships {Q : (Nat → Int32) → Prop} {all : Nat → Int32} {v : Int32} (s w : Nat) (hs : s < 8) (hw : w < 12) (h : Q (upd all (360 + 12 * s + w) v)) : wX11_ships Q (nI s) (nI w) v all := by
  unfold wX11_ships
  rw [ip_itA, nI_clamp (by omega)]
  exact ⟨vp_in_nI (by omega) (by omega), h⟩
/-- the gulf with its ships and its weather -/
structure GU where
  rows : Nat
  cols : Nat
  size : Nat
  hour : Nat
  laid : Int32
  grown : Int32
  melted : Int32
  sea : Nat → Int32
  fast : Nat → Int32
  level : Nat → Int32
  ridged : Nat → Int32
  chan : Nat → Int32
  str : Nat → Int32
  fuel : Nat → Int32
  place : Nat → Int32
  told : Nat → Int32
  moved : Nat → Int32
  line : Nat → Int32
  done : Nat → Int32
  ord : Nat → Option Nat
  cold : Nat → Int32
  way : Nat → Int32
  force : Nat → Int32
def GU.pl (g : GU) (s : Nat) : Nat := (g.place s).toNatClampNeg
def GU.ins (g : GU) (k : Nat) : Prop := k / 8 < g.rows ∧ k % 8 < g.cols
instance (g : GU) (k : Nat) : Decidable (g.ins k) := inferInstanceAs (Decidable (_ ∧ _))
structure Wf (g : GU) : Prop where
  r1 : 1 ≤ g.rows
  r8 : g.rows ≤ 8
  c1 : 1 ≤ g.cols
  c8 : g.cols ≤ 8
  s8 : g.size ≤ 8
  h1 : g.hour ≤ 1000
  sea : ∀ k, k < 64 → g.sea k = 0 ∨ g.sea k = 1
  fast : ∀ k, k < 64 → g.fast k = 0 ∨ g.fast k = 1
  out : ∀ k, k < 64 → ¬ g.ins k → g.sea k = 0 ∧ g.level k = 0 ∧ g.ridged k = 0 ∧ g.chan k = -1
  chan : ∀ k, k < 64 → g.chan k = -1 ∨ ∃ t : Nat, t ≤ 1000 ∧ g.chan k = nI t
  place : ∀ s, s < g.size → g.place s = nI (g.pl s) ∧ g.pl s < 64 ∧ g.ins (g.pl s)
  dist : ∀ s t, s < g.size → t < g.size → g.pl s = g.pl t → s = t
  str : ∀ s, s < g.size → ∃ t : Nat, t ≤ 200 ∧ g.str s = nI t
  done : ∀ s, s < 8 → g.done s = 0 ∨ g.done s = 1
  way : ∀ t, t < 1000 → ∃ w : Nat, w ≤ 3 ∧ g.way t = nI w
  force : ∀ t, t < 1000 → ∃ w : Nat, w ≤ 50 ∧ g.force t = nI w
/-- the reference's words, by the class's: of the parts of a comparison, of the acts, of a step -/
def wordR (x : Nat) : Nat := if x < 4 then x + 8 else if x < 12 then x - 4 else if x = 12 then 12 else if x < 16 then x + 11 else x + 14
inductive StepR : Int32 → Int32 → Int32 → Int32 → Prop where
  | nt : StepR (-1) 33 0 0
  | an : StepR (-2) 32 0 0
  | orr : StepR (-3) 31 0 0
  | cmp (w sg n : Nat) (hw : w ≤ 12) (hs : sg = 61 ∨ sg = 60 ∨ sg = 62) (hn : n ≤ 9999) : StepR (nI (w * 4194304 + sg * 16384 + n)) (nI (wordR w)) (nI sg) (nI n)
/-- what the open answers of some steps are, by their number: depth behind m steps from d, never below 1, never above 20 -/
def depOk (st : Nat → Int32) : Nat → Nat → Nat → Option Nat
  | 0, _, d => some d
  | m + 1, i, d => if st i = -1 then (if 1 ≤ d then depOk st m (i + 1) d else none) else if st i = -2 ∨ st i = -3 then (if 2 ≤ d then depOk st m (i + 1) (d - 1) else none) else if d < 20 then depOk st m (i + 1) (d + 1) else none
def oF (r : OR) (k : Nat) : Nat := if k = 0 then 0 else (oE r (k - 1)).toNatClampNeg
def oT (r : OR) (k : Nat) : Nat := (oE r k).toNatClampNeg
structure TxOk (r : OR) : Prop where
  n : oN r ≤ 260
  l : oL r ≤ 20
  e : ∀ k, k < oL r → oE r k = nI (oT r k) ∧ oF r k ≤ oT r k ∧ oT r k ≤ oN r
  d : ∀ k, k < oL r → oF r k < oT r k → depOk (oS r) (oT r k - oF r k) (oF r k) 0 = some 1
structure TxR (r : OR) (ln ac : Nat → Int32) : Prop where
  ok : TxOk r
  frm : ∀ k, k < oL r → ln (4 * k) = if oF r k = oT r k then -1 else nI (oF r k)
  til : ∀ k, k < oL r → ln (4 * k + 1) = nI (oT r k)
  act : ∀ k, k < oL r → ∃ w : Nat, (w < 4 ∨ w = 13 ∨ w = 14 ∨ w = 15) ∧ oA r k = nI w ∧ ln (4 * k + 2) = nI (wordR w)
  num : ∀ k, k < oL r → ln (4 * k + 3) = oM r k
  st : ∀ i, i < oN r → StepR (oS r i) (ac (3 * i)) (ac (3 * i + 1)) (ac (3 * i + 2))
def OrdR (om : Nat → Option OR) (o : Option Nat) (n : Int32) (ln ac : Nat → Int32) : Prop :=
  match o with
  | none => n = 0
  | some a => ∃ r, om a = some r ∧ n = nI (oL r) ∧ TxR r ln ac
/-- the reference's row shows this gulf -/
structure Rg (om : Nat → Option OR) (all : Nat → Int32) (g : GU) : Prop where
  rows : all 0 = nI g.rows
  cols : all 1 = nI g.cols
  size : all 2 = nI g.size
  hour : all 3 = nI g.hour
  laid : all 4 = g.laid
  grown : all 5 = g.grown
  melted : all 6 = g.melted
  sea : ∀ k, k < 64 → g.ins k → all (40 + 5 * k) = g.sea k
  level : ∀ k, k < 64 → all (40 + 5 * k + 1) = g.level k
  ridged : ∀ k, k < 64 → all (40 + 5 * k + 2) = g.ridged k
  chan : ∀ k, k < 64 → all (40 + 5 * k + 3) = g.chan k
  fast : ∀ k, k < 64 → g.ins k → all (40 + 5 * k + 4) = g.fast k
  str : ∀ s, s < g.size → all (360 + 12 * s) = g.str s
  fuel : ∀ s, s < g.size → all (360 + 12 * s + 1) = g.fuel s
  prow : ∀ s, s < g.size → all (360 + 12 * s + 2) = nI (g.pl s / 8)
  pcol : ∀ s, s < g.size → all (360 + 12 * s + 3) = nI (g.pl s % 8)
  told : ∀ s, s < g.size → all (360 + 12 * s + 4) = g.told s
  moved : ∀ s, s < g.size → all (360 + 12 * s + 5) = g.moved s
  line : ∀ s, s < g.size → all (360 + 12 * s + 6) = g.line s
  done : ∀ s, s < g.size → all (360 + 12 * s + 7) = g.done s
  ord : ∀ s, s < g.size → OrdR om (g.ord s) (all (360 + 12 * s + 8)) (fun k => all (3460 + 80 * s + k)) (fun k => all (4100 + 780 * s + k))
  cold : ∀ t, t < 1000 → all (460 + 3 * t) = g.cold t
  way : ∀ t, t < 1000 → all (460 + 3 * t + 1) = g.way t
  force : ∀ t, t < 1000 → all (460 + 3 * t + 2) = g.force t
