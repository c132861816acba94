/-! PURE LEVEL 43: wholes alike; a copy of one; image and again; the start -/
def AgW (w w' : WH) : Prop := AgG w.g w'.g ∧ (w'.tlen = w.tlen ∧ w'.fault = w.fault ∧ w'.place = w.place ∧ w'.psize = w.psize ∧ w'.ssize = w.ssize) ∧ (∀ i, i < 400 → w'.tape i = w.tape i) ∧ (∀ k, k < 6 → w'.frm k = w.frm k ∧ w'.takes k = w.takes k ∧ w'.worth k = w.worth k ∧ w'.settled k = w.settled k)
theorem WfW.ag {w w' : WH} (W : WfW w) (A : AgW w w') : WfW w' := by
  obtain ⟨ag, ⟨a1, a2, a3, a4, a5⟩, ht, hk⟩ := A
  have hL := W.tlen
  have hP := W.psize
  have hS := W.ssize
  exact WfW.mk' (k_g := W.g.ag ag) (k_tlen := by rw [a1]; exact hL) (k_tape := fun i h => by rw [a1] at h; rw [ht i (by omega)]; exact W.tape i h) (k_psize := by rw [a4]; exact hP)
    (k_frm := fun k h => by rw [a4] at h; rw [(hk k (by omega)).1]; exact W.frm k h)
    (k_takes := fun k h => by rw [a4] at h; rw [(hk k (by omega)).2.1]; exact W.takes k h)
    (k_worth := fun k h => by rw [a4] at h; rw [(hk k (by omega)).2.2.1]; exact W.worth k h)
    (k_ssize := by rw [a5]; exact hS)
theorem RW.ag {om : Nat → Option OR} {all : Nat → Int32} {w w' : WH} (R : RW om all w) (W : WfW w) (A : AgW w w') : RW om all w' := by
  obtain ⟨ag, ⟨a1, a2, a3, a4, a5⟩, ht, hk⟩ := A
  have hL := W.tlen
  have hP := W.psize
  have hS := W.ssize
  exact RW.mk' (k_g := R.g.ag W.g ag) (k_tlen := by rw [a1]; exact R.tlen) (k_tape := fun i h => by rw [a1] at h; rw [ht i (by omega)]; exact R.tape i h)
    (k_fault := by rw [a2]; exact R.fault) (k_place := by rw [a3]; exact R.place) (k_psize := by rw [a4]; exact R.psize)
    (k_frm := fun k h => by rw [a4] at h; rw [(hk k (by omega)).1]; exact R.frm k h)
    (k_takes := fun k h => by rw [a4] at h; rw [(hk k (by omega)).2.1]; exact R.takes k h)
    (k_worth := fun k h => by rw [a4] at h; rw [(hk k (by omega)).2.2.1]; exact R.worth k h)
    (k_ssize := by rw [a5]; exact R.ssize)
    (k_settled := fun k h => by rw [a5] at h; rw [(hk k (by omega)).2.2.2]; exact R.settled k h)
theorem c_copyWhole {Q : Int32 → Int32 → Int32 → Int32 → Int32 → Int32 → Int32 → Int32 → Int32 → Int32 → Int32 → Int32 → (Nat → Int32) → (Nat → Int32) → (Nat → Int32) → (Nat → Int32) → (Nat → Int32) → (Nat → Int32) → (Nat → Int32) → (Nat → Int32) → (Nat → Option Nat) → (Nat → Int32) → (Nat → Int32) → (Nat → Int32) → (Nat → Int32) → (Nat → Int32) → (Nat → Int32) → (Nat → Int32) → (Nat → Int32) → (Nat → Int32) → (Nat → Int32) → (Nat → Int32) → (Nat → Int32) → Prop} {om : Nat → Option OR} {all : Nat → Int32} {w : WH} (W : WfW w) (R : RW om all w) {b1 b2 b3 b4 b5 b6 b7 b8 b9 b10 b11 b12 : Int32} {c1 c2 c3 c4 c5 c6 c7 c8 c10 c11 c12 c13 c14 c15 c16 c17 c18 c19 c20 c21 : Nat → Int32} {c9 : Nat → Option Nat}
    (h : ∀ w', AgW w w' → Q w'.fault w'.place (nI w'.psize) (nI w'.ssize) (nI w'.g.hour) (nI w'.g.size) (nI w'.g.rows) (nI w'.g.cols) w'.g.laid w'.g.grown w'.g.melted (nI w'.tlen) w'.frm w'.settled w'.takes w'.worth w'.g.done w'.g.fuel w'.g.line w'.g.moved w'.g.ord w'.g.place w'.g.str w'.g.told w'.g.chan w'.g.fast w'.g.level w'.g.ridged w'.g.sea w'.g.cold w'.g.force w'.g.way w'.tape) :
    wX8_copy Q om w.fault w.place (nI w.psize) (nI w.ssize) (nI w.g.hour) (nI w.g.size) (nI w.g.rows) (nI w.g.cols) w.g.laid w.g.grown w.g.melted (nI w.tlen) b1 b2 b3 b4 b5 b6 b7 b8 b9 b10 b11 b12 w.frm w.settled w.takes w.worth w.g.done w.g.fuel w.g.line w.g.moved w.g.ord w.g.place w.g.str w.g.told w.g.chan w.g.fast w.g.level w.g.ridged w.g.sea w.g.cold w.g.force w.g.way w.tape c1 c2 c3 c4 c5 c6 c7 c8 c9 c10 c11 c12 c13 c14 c15 c16 c17 c18 c19 c20 c21 := by
  unfold wX8_copy
  refine c_copyAll W.g R.g.od (fun g A e1 e2 e3 => ?_)
  unfold wX7_copy wX6_copy wX0_copy
  rw [show (0 : Int32).toNatClampNeg = 0 from rfl, show (1000 : Int32).toNatClampNeg = 1000 from rfl, show (400 : Int32).toNatClampNeg = 400 from rfl, show (6 : Int32).toNatClampNeg = 6 from rfl]
  obtain ⟨q1, q2, q3, q4⟩ := A
  exact h (((((g.rows, g.cols, g.size, g.hour, g.laid, g.grown, g.melted, g.sea, g.fast, g.level, g.ridged, g.chan, g.str, g.fuel, g.place, g.told, g.moved, g.line, g.done, g.ord, (va_cpy w.g.cold c18 0 0 1000), (va_cpy w.g.way c20 0 0 1000), (va_cpy w.g.force c19 0 0 1000)) : GU)), w.tlen, (va_cpy w.tape c21 0 0 400), w.fault, w.place, w.psize, (va_cpy w.frm c1 0 0 6), (va_cpy w.takes c3 0 0 6), (va_cpy w.worth c4 0 0 6), w.ssize, (va_cpy w.settled c2 0 0 6)) : WH) ⟨⟨q1, q2, q3, fun t ht => ⟨cp0 ht, cp0 ht, cp0 ht⟩⟩, ⟨rfl, rfl, rfl, rfl, rfl⟩, fun i hi => cp0 hi, fun k hk => ⟨cp0 hk, cp0 hk, cp0 hk, cp0 hk⟩⟩
