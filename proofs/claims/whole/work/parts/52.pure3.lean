theorem Rg.setSea {om : Nat → Option OR} {all : Nat → Int32} {g : GU} (R : Rg om all g) (k : Nat) (v : Int32) (hk : k < 64) : Rg om (upd all (40 + 5 * k) v) ((g.rows, g.cols, g.size, g.hour, g.laid, g.grown, g.melted, (upd g.sea k v), g.fast, g.level, g.ridged, g.chan, g.str, g.fuel, g.place, g.told, g.moved, g.line, g.done, g.ord, g.cold, g.way, g.force) : GU) :=
  Rg.mk'
    (k_rows := (pk_un (by omega)).trans R.rows)
    (k_cols := (pk_un (by omega)).trans R.cols)
    (k_size := (pk_un (by omega)).trans R.size)
    (k_hour := (pk_un (by omega)).trans R.hour)
    (k_laid := (pk_un (by omega)).trans R.laid)
    (k_grown := (pk_un (by omega)).trans R.grown)
    (k_melted := (pk_un (by omega)).trans R.melted)
    (k_sea := fun j hj hi => by
    by_cases e : j = k
    · subst e; exact pk_us.trans pk_us.symm
    · exact (pk_un (by omega)).trans ((R.sea j hj hi).trans (pk_un e).symm))
    (k_level := fun j hj => (pk_un (by omega)).trans (R.level j hj))
    (k_ridged := fun j hj => (pk_un (by omega)).trans (R.ridged j hj))
    (k_chan := fun j hj => (pk_un (by omega)).trans (R.chan j hj))
    (k_fast := fun j hj hi => (pk_un (by omega)).trans (R.fast j hj hi))
    (k_str := fun j hj => (pk_un (by omega)).trans (R.str j hj))
    (k_fuel := fun j hj => (pk_un (by omega)).trans (R.fuel j hj))
    (k_prow := fun j hj => (pk_un (by omega)).trans (R.prow j hj))
    (k_pcol := fun j hj => (pk_un (by omega)).trans (R.pcol j hj))
    (k_told := fun j hj => (pk_un (by omega)).trans (R.told j hj))
    (k_moved := fun j hj => (pk_un (by omega)).trans (R.moved j hj))
    (k_line := fun j hj => (pk_un (by omega)).trans (R.line j hj))
    (k_done := fun j hj => (pk_un (by omega)).trans (R.done j hj))
    (k_ord := fun j hj => by rw [pk_un (by omega), show (fun i => upd all (40 + 5 * k) v (3460 + 80 * j + i)) = fun i => all (3460 + 80 * j + i) from funext fun i => pk_un (by omega), show (fun i => upd all (40 + 5 * k) v (4100 + 780 * j + i)) = fun i => all (4100 + 780 * j + i) from funext fun i => pk_un (by omega)]; exact R.ord j hj)
    (k_cold := fun j hj => (pk_un (by omega)).trans (R.cold j hj))
    (k_way := fun j hj => (pk_un (by omega)).trans (R.way j hj))
    (k_force := fun j hj => (pk_un (by omega)).trans (R.force j hj))
    (k_od := R.od)

theorem Rg.setLevel {om : Nat → Option OR} {all : Nat → Int32} {g : GU} (R : Rg om all g) (k : Nat) (v : Int32) (hk : k < 64) : Rg om (upd all (40 + 5 * k + 1) v) ((g.rows, g.cols, g.size, g.hour, g.laid, g.grown, g.melted, g.sea, g.fast, (upd g.level k v), g.ridged, g.chan, g.str, g.fuel, g.place, g.told, g.moved, g.line, g.done, g.ord, g.cold, g.way, g.force) : GU) :=
  Rg.mk'
    (k_rows := (pk_un (by omega)).trans R.rows)
    (k_cols := (pk_un (by omega)).trans R.cols)
    (k_size := (pk_un (by omega)).trans R.size)
    (k_hour := (pk_un (by omega)).trans R.hour)
    (k_laid := (pk_un (by omega)).trans R.laid)
    (k_grown := (pk_un (by omega)).trans R.grown)
    (k_melted := (pk_un (by omega)).trans R.melted)
    (k_sea := fun j hj hi => (pk_un (by omega)).trans (R.sea j hj hi))
    (k_level := fun j hj => by
    by_cases e : j = k
    · subst e; exact pk_us.trans pk_us.symm
    · exact (pk_un (by omega)).trans ((R.level j hj).trans (pk_un e).symm))
    (k_ridged := fun j hj => (pk_un (by omega)).trans (R.ridged j hj))
    (k_chan := fun j hj => (pk_un (by omega)).trans (R.chan j hj))
    (k_fast := fun j hj hi => (pk_un (by omega)).trans (R.fast j hj hi))
    (k_str := fun j hj => (pk_un (by omega)).trans (R.str j hj))
    (k_fuel := fun j hj => (pk_un (by omega)).trans (R.fuel j hj))
    (k_prow := fun j hj => (pk_un (by omega)).trans (R.prow j hj))
    (k_pcol := fun j hj => (pk_un (by omega)).trans (R.pcol j hj))
    (k_told := fun j hj => (pk_un (by omega)).trans (R.told j hj))
    (k_moved := fun j hj => (pk_un (by omega)).trans (R.moved j hj))
    (k_line := fun j hj => (pk_un (by omega)).trans (R.line j hj))
    (k_done := fun j hj => (pk_un (by omega)).trans (R.done j hj))
    (k_ord := fun j hj => by rw [pk_un (by omega), show (fun i => upd all (40 + 5 * k + 1) v (3460 + 80 * j + i)) = fun i => all (3460 + 80 * j + i) from funext fun i => pk_un (by omega), show (fun i => upd all (40 + 5 * k + 1) v (4100 + 780 * j + i)) = fun i => all (4100 + 780 * j + i) from funext fun i => pk_un (by omega)]; exact R.ord j hj)
    (k_cold := fun j hj => (pk_un (by omega)).trans (R.cold j hj))
    (k_way := fun j hj => (pk_un (by omega)).trans (R.way j hj))
    (k_force := fun j hj => (pk_un (by omega)).trans (R.force j hj))
    (k_od := R.od)

theorem Rg.setRidged {om : Nat → Option OR} {all : Nat → Int32} {g : GU} (R : Rg om all g) (k : Nat) (v : Int32) (hk : k < 64) : Rg om (upd all (40 + 5 * k + 2) v) ((g.rows, g.cols, g.size, g.hour, g.laid, g.grown, g.melted, g.sea, g.fast, g.level, (upd g.ridged k v), g.chan, g.str, g.fuel, g.place, g.told, g.moved, g.line, g.done, g.ord, g.cold, g.way, g.force) : GU) :=
  Rg.mk'
    (k_rows := (pk_un (by omega)).trans R.rows)
    (k_cols := (pk_un (by omega)).trans R.cols)
    (k_size := (pk_un (by omega)).trans R.size)
    (k_hour := (pk_un (by omega)).trans R.hour)
    (k_laid := (pk_un (by omega)).trans R.laid)
    (k_grown := (pk_un (by omega)).trans R.grown)
    (k_melted := (pk_un (by omega)).trans R.melted)
    (k_sea := fun j hj hi => (pk_un (by omega)).trans (R.sea j hj hi))
    (k_level := fun j hj => (pk_un (by omega)).trans (R.level j hj))
    (k_ridged := fun j hj => by
    by_cases e : j = k
    · subst e; exact pk_us.trans pk_us.symm
    · exact (pk_un (by omega)).trans ((R.ridged j hj).trans (pk_un e).symm))
    (k_chan := fun j hj => (pk_un (by omega)).trans (R.chan j hj))
    (k_fast := fun j hj hi => (pk_un (by omega)).trans (R.fast j hj hi))
    (k_str := fun j hj => (pk_un (by omega)).trans (R.str j hj))
    (k_fuel := fun j hj => (pk_un (by omega)).trans (R.fuel j hj))
    (k_prow := fun j hj => (pk_un (by omega)).trans (R.prow j hj))
    (k_pcol := fun j hj => (pk_un (by omega)).trans (R.pcol j hj))
    (k_told := fun j hj => (pk_un (by omega)).trans (R.told j hj))
    (k_moved := fun j hj => (pk_un (by omega)).trans (R.moved j hj))
    (k_line := fun j hj => (pk_un (by omega)).trans (R.line j hj))
    (k_done := fun j hj => (pk_un (by omega)).trans (R.done j hj))
    (k_ord := fun j hj => by rw [pk_un (by omega), show (fun i => upd all (40 + 5 * k + 2) v (3460 + 80 * j + i)) = fun i => all (3460 + 80 * j + i) from funext fun i => pk_un (by omega), show (fun i => upd all (40 + 5 * k + 2) v (4100 + 780 * j + i)) = fun i => all (4100 + 780 * j + i) from funext fun i => pk_un (by omega)]; exact R.ord j hj)
    (k_cold := fun j hj => (pk_un (by omega)).trans (R.cold j hj))
    (k_way := fun j hj => (pk_un (by omega)).trans (R.way j hj))
    (k_force := fun j hj => (pk_un (by omega)).trans (R.force j hj))
    (k_od := R.od)

theorem Rg.setChan {om : Nat → Option OR} {all : Nat → Int32} {g : GU} (R : Rg om all g) (k : Nat) (v : Int32) (hk : k < 64) : Rg om (upd all (40 + 5 * k + 3) v) ((g.rows, g.cols, g.size, g.hour, g.laid, g.grown, g.melted, g.sea, g.fast, g.level, g.ridged, (upd g.chan k v), g.str, g.fuel, g.place, g.told, g.moved, g.line, g.done, g.ord, g.cold, g.way, g.force) : GU) :=
  Rg.mk'
    (k_rows := (pk_un (by omega)).trans R.rows)
    (k_cols := (pk_un (by omega)).trans R.cols)
    (k_size := (pk_un (by omega)).trans R.size)
    (k_hour := (pk_un (by omega)).trans R.hour)
    (k_laid := (pk_un (by omega)).trans R.laid)
    (k_grown := (pk_un (by omega)).trans R.grown)
    (k_melted := (pk_un (by omega)).trans R.melted)
    (k_sea := fun j hj hi => (pk_un (by omega)).trans (R.sea j hj hi))
    (k_level := fun j hj => (pk_un (by omega)).trans (R.level j hj))
    (k_ridged := fun j hj => (pk_un (by omega)).trans (R.ridged j hj))
    (k_chan := fun j hj => by
    by_cases e : j = k
    · subst e; exact pk_us.trans pk_us.symm
    · exact (pk_un (by omega)).trans ((R.chan j hj).trans (pk_un e).symm))
    (k_fast := fun j hj hi => (pk_un (by omega)).trans (R.fast j hj hi))
    (k_str := fun j hj => (pk_un (by omega)).trans (R.str j hj))
    (k_fuel := fun j hj => (pk_un (by omega)).trans (R.fuel j hj))
    (k_prow := fun j hj => (pk_un (by omega)).trans (R.prow j hj))
    (k_pcol := fun j hj => (pk_un (by omega)).trans (R.pcol j hj))
    (k_told := fun j hj => (pk_un (by omega)).trans (R.told j hj))
    (k_moved := fun j hj => (pk_un (by omega)).trans (R.moved j hj))
    (k_line := fun j hj => (pk_un (by omega)).trans (R.line j hj))
    (k_done := fun j hj => (pk_un (by omega)).trans (R.done j hj))
    (k_ord := fun j hj => by rw [pk_un (by omega), show (fun i => upd all (40 + 5 * k + 3) v (3460 + 80 * j + i)) = fun i => all (3460 + 80 * j + i) from funext fun i => pk_un (by omega), show (fun i => upd all (40 + 5 * k + 3) v (4100 + 780 * j + i)) = fun i => all (4100 + 780 * j + i) from funext fun i => pk_un (by omega)]; exact R.ord j hj)
    (k_cold := fun j hj => (pk_un (by omega)).trans (R.cold j hj))
    (k_way := fun j hj => (pk_un (by omega)).trans (R.way j hj))
    (k_force := fun j hj => (pk_un (by omega)).trans (R.force j hj))
    (k_od := R.od)

theorem Rg.setFast {om : Nat → Option OR} {all : Nat → Int32} {g : GU} (R : Rg om all g) (k : Nat) (v : Int32) (hk : k < 64) : Rg om (upd all (40 + 5 * k + 4) v) ((g.rows, g.cols, g.size, g.hour, g.laid, g.grown, g.melted, g.sea, (upd g.fast k v), g.level, g.ridged, g.chan, g.str, g.fuel, g.place, g.told, g.moved, g.line, g.done, g.ord, g.cold, g.way, g.force) : GU) :=
  Rg.mk'
    (k_rows := (pk_un (by omega)).trans R.rows)
    (k_cols := (pk_un (by omega)).trans R.cols)
    (k_size := (pk_un (by omega)).trans R.size)
    (k_hour := (pk_un (by omega)).trans R.hour)
    (k_laid := (pk_un (by omega)).trans R.laid)
    (k_grown := (pk_un (by omega)).trans R.grown)
    (k_melted := (pk_un (by omega)).trans R.melted)
    (k_sea := fun j hj hi => (pk_un (by omega)).trans (R.sea j hj hi))
    (k_level := fun j hj => (pk_un (by omega)).trans (R.level j hj))
    (k_ridged := fun j hj => (pk_un (by omega)).trans (R.ridged j hj))
    (k_chan := fun j hj => (pk_un (by omega)).trans (R.chan j hj))
    (k_fast := fun j hj hi => by
    by_cases e : j = k
    · subst e; exact pk_us.trans pk_us.symm
    · exact (pk_un (by omega)).trans ((R.fast j hj hi).trans (pk_un e).symm))
    (k_str := fun j hj => (pk_un (by omega)).trans (R.str j hj))
    (k_fuel := fun j hj => (pk_un (by omega)).trans (R.fuel j hj))
    (k_prow := fun j hj => (pk_un (by omega)).trans (R.prow j hj))
    (k_pcol := fun j hj => (pk_un (by omega)).trans (R.pcol j hj))
    (k_told := fun j hj => (pk_un (by omega)).trans (R.told j hj))
    (k_moved := fun j hj => (pk_un (by omega)).trans (R.moved j hj))
    (k_line := fun j hj => (pk_un (by omega)).trans (R.line j hj))
    (k_done := fun j hj => (pk_un (by omega)).trans (R.done j hj))
    (k_ord := fun j hj => by rw [pk_un (by omega), show (fun i => upd all (40 + 5 * k + 4) v (3460 + 80 * j + i)) = fun i => all (3460 + 80 * j + i) from funext fun i => pk_un (by omega), show (fun i => upd all (40 + 5 * k + 4) v (4100 + 780 * j + i)) = fun i => all (4100 + 780 * j + i) from funext fun i => pk_un (by omega)]; exact R.ord j hj)
    (k_cold := fun j hj => (pk_un (by omega)).trans (R.cold j hj))
    (k_way := fun j hj => (pk_un (by omega)).trans (R.way j hj))
    (k_force := fun j hj => (pk_un (by omega)).trans (R.force j hj))
    (k_od := R.od)

theorem Rg.setStr {om : Nat → Option OR} {all : Nat → Int32} {g : GU} (R : Rg om all g) (k : Nat) (v : Int32) (hs : g.size ≤ 8) (hk : k < 8) : Rg om (upd all (360 + 12 * k) v) ((g.rows, g.cols, g.size, g.hour, g.laid, g.grown, g.melted, g.sea, g.fast, g.level, g.ridged, g.chan, (upd g.str k v), g.fuel, g.place, g.told, g.moved, g.line, g.done, g.ord, g.cold, g.way, g.force) : GU) :=
  Rg.mk'
    (k_rows := (pk_un (by omega)).trans R.rows)
    (k_cols := (pk_un (by omega)).trans R.cols)
    (k_size := (pk_un (by omega)).trans R.size)
    (k_hour := (pk_un (by omega)).trans R.hour)
    (k_laid := (pk_un (by omega)).trans R.laid)
    (k_grown := (pk_un (by omega)).trans R.grown)
    (k_melted := (pk_un (by omega)).trans R.melted)
    (k_sea := fun j hj hi => (pk_un (by omega)).trans (R.sea j hj hi))
    (k_level := fun j hj => (pk_un (by omega)).trans (R.level j hj))
    (k_ridged := fun j hj => (pk_un (by omega)).trans (R.ridged j hj))
    (k_chan := fun j hj => (pk_un (by omega)).trans (R.chan j hj))
    (k_fast := fun j hj hi => (pk_un (by omega)).trans (R.fast j hj hi))
    (k_str := fun j hj => by
    by_cases e : j = k
    · subst e; exact pk_us.trans pk_us.symm
    · exact (pk_un (by omega)).trans ((R.str j hj).trans (pk_un e).symm))
    (k_fuel := fun j hj => (pk_un (by omega)).trans (R.fuel j hj))
    (k_prow := fun j hj => (pk_un (by omega)).trans (R.prow j hj))
    (k_pcol := fun j hj => (pk_un (by omega)).trans (R.pcol j hj))
    (k_told := fun j hj => (pk_un (by omega)).trans (R.told j hj))
    (k_moved := fun j hj => (pk_un (by omega)).trans (R.moved j hj))
    (k_line := fun j hj => (pk_un (by omega)).trans (R.line j hj))
    (k_done := fun j hj => (pk_un (by omega)).trans (R.done j hj))
    (k_ord := fun j hj => by rw [pk_un (by omega), show (fun i => upd all (360 + 12 * k) v (3460 + 80 * j + i)) = fun i => all (3460 + 80 * j + i) from funext fun i => pk_un (by omega), show (fun i => upd all (360 + 12 * k) v (4100 + 780 * j + i)) = fun i => all (4100 + 780 * j + i) from funext fun i => pk_un (by omega)]; exact R.ord j hj)
    (k_cold := fun j hj => (pk_un (by omega)).trans (R.cold j hj))
    (k_way := fun j hj => (pk_un (by omega)).trans (R.way j hj))
    (k_force := fun j hj => (pk_un (by omega)).trans (R.force j hj))
    (k_od := R.od)

theorem Rg.setFuel {om : Nat → Option OR} {all : Nat → Int32} {g : GU} (R : Rg om all g) (k : Nat) (v : Int32) (hs : g.size ≤ 8) (hk : k < 8) : Rg om (upd all (360 + 12 * k + 1) v) ((g.rows, g.cols, g.size, g.hour, g.laid, g.grown, g.melted, g.sea, g.fast, g.level, g.ridged, g.chan, g.str, (upd g.fuel k v), g.place, g.told, g.moved, g.line, g.done, g.ord, g.cold, g.way, g.force) : GU) :=
  Rg.mk'
    (k_rows := (pk_un (by omega)).trans R.rows)
    (k_cols := (pk_un (by omega)).trans R.cols)
    (k_size := (pk_un (by omega)).trans R.size)
    (k_hour := (pk_un (by omega)).trans R.hour)
    (k_laid := (pk_un (by omega)).trans R.laid)
    (k_grown := (pk_un (by omega)).trans R.grown)
    (k_melted := (pk_un (by omega)).trans R.melted)
    (k_sea := fun j hj hi => (pk_un (by omega)).trans (R.sea j hj hi))
    (k_level := fun j hj => (pk_un (by omega)).trans (R.level j hj))
    (k_ridged := fun j hj => (pk_un (by omega)).trans (R.ridged j hj))
    (k_chan := fun j hj => (pk_un (by omega)).trans (R.chan j hj))
    (k_fast := fun j hj hi => (pk_un (by omega)).trans (R.fast j hj hi))
    (k_str := fun j hj => (pk_un (by omega)).trans (R.str j hj))
    (k_fuel := fun j hj => by
    by_cases e : j = k
    · subst e; exact pk_us.trans pk_us.symm
    · exact (pk_un (by omega)).trans ((R.fuel j hj).trans (pk_un e).symm))
    (k_prow := fun j hj => (pk_un (by omega)).trans (R.prow j hj))
    (k_pcol := fun j hj => (pk_un (by omega)).trans (R.pcol j hj))
    (k_told := fun j hj => (pk_un (by omega)).trans (R.told j hj))
    (k_moved := fun j hj => (pk_un (by omega)).trans (R.moved j hj))
    (k_line := fun j hj => (pk_un (by omega)).trans (R.line j hj))
    (k_done := fun j hj => (pk_un (by omega)).trans (R.done j hj))
    (k_ord := fun j hj => by rw [pk_un (by omega), show (fun i => upd all (360 + 12 * k + 1) v (3460 + 80 * j + i)) = fun i => all (3460 + 80 * j + i) from funext fun i => pk_un (by omega), show (fun i => upd all (360 + 12 * k + 1) v (4100 + 780 * j + i)) = fun i => all (4100 + 780 * j + i) from funext fun i => pk_un (by omega)]; exact R.ord j hj)
    (k_cold := fun j hj => (pk_un (by omega)).trans (R.cold j hj))
    (k_way := fun j hj => (pk_un (by omega)).trans (R.way j hj))
    (k_force := fun j hj => (pk_un (by omega)).trans (R.force j hj))
    (k_od := R.od)

theorem Rg.setTold {om : Nat → Option OR} {all : Nat → Int32} {g : GU} (R : Rg om all g) (k : Nat) (v : Int32) (hs : g.size ≤ 8) (hk : k < 8) : Rg om (upd all (360 + 12 * k + 4) v) ((g.rows, g.cols, g.size, g.hour, g.laid, g.grown, g.melted, g.sea, g.fast, g.level, g.ridged, g.chan, g.str, g.fuel, g.place, (upd g.told k v), g.moved, g.line, g.done, g.ord, g.cold, g.way, g.force) : GU) :=
  Rg.mk'
    (k_rows := (pk_un (by omega)).trans R.rows)
    (k_cols := (pk_un (by omega)).trans R.cols)
    (k_size := (pk_un (by omega)).trans R.size)
    (k_hour := (pk_un (by omega)).trans R.hour)
    (k_laid := (pk_un (by omega)).trans R.laid)
    (k_grown := (pk_un (by omega)).trans R.grown)
    (k_melted := (pk_un (by omega)).trans R.melted)
    (k_sea := fun j hj hi => (pk_un (by omega)).trans (R.sea j hj hi))
    (k_level := fun j hj => (pk_un (by omega)).trans (R.level j hj))
    (k_ridged := fun j hj => (pk_un (by omega)).trans (R.ridged j hj))
    (k_chan := fun j hj => (pk_un (by omega)).trans (R.chan j hj))
    (k_fast := fun j hj hi => (pk_un (by omega)).trans (R.fast j hj hi))
    (k_str := fun j hj => (pk_un (by omega)).trans (R.str j hj))
    (k_fuel := fun j hj => (pk_un (by omega)).trans (R.fuel j hj))
    (k_prow := fun j hj => (pk_un (by omega)).trans (R.prow j hj))
    (k_pcol := fun j hj => (pk_un (by omega)).trans (R.pcol j hj))
    (k_told := fun j hj => by
    by_cases e : j = k
    · subst e; exact pk_us.trans pk_us.symm
    · exact (pk_un (by omega)).trans ((R.told j hj).trans (pk_un e).symm))
    (k_moved := fun j hj => (pk_un (by omega)).trans (R.moved j hj))
    (k_line := fun j hj => (pk_un (by omega)).trans (R.line j hj))
    (k_done := fun j hj => (pk_un (by omega)).trans (R.done j hj))
    (k_ord := fun j hj => by rw [pk_un (by omega), show (fun i => upd all (360 + 12 * k + 4) v (3460 + 80 * j + i)) = fun i => all (3460 + 80 * j + i) from funext fun i => pk_un (by omega), show (fun i => upd all (360 + 12 * k + 4) v (4100 + 780 * j + i)) = fun i => all (4100 + 780 * j + i) from funext fun i => pk_un (by omega)]; exact R.ord j hj)
    (k_cold := fun j hj => (pk_un (by omega)).trans (R.cold j hj))
    (k_way := fun j hj => (pk_un (by omega)).trans (R.way j hj))
    (k_force := fun j hj => (pk_un (by omega)).trans (R.force j hj))
    (k_od := R.od)

theorem Rg.setMoved {om : Nat → Option OR} {all : Nat → Int32} {g : GU} (R : Rg om all g) (k : Nat) (v : Int32) (hs : g.size ≤ 8) (hk : k < 8) : Rg om (upd all (360 + 12 * k + 5) v) ((g.rows, g.cols, g.size, g.hour, g.laid, g.grown, g.melted, g.sea, g.fast, g.level, g.ridged, g.chan, g.str, g.fuel, g.place, g.told, (upd g.moved k v), g.line, g.done, g.ord, g.cold, g.way, g.force) : GU) :=
  Rg.mk'
    (k_rows := (pk_un (by omega)).trans R.rows)
    (k_cols := (pk_un (by omega)).trans R.cols)
    (k_size := (pk_un (by omega)).trans R.size)
    (k_hour := (pk_un (by omega)).trans R.hour)
    (k_laid := (pk_un (by omega)).trans R.laid)
    (k_grown := (pk_un (by omega)).trans R.grown)
    (k_melted := (pk_un (by omega)).trans R.melted)
    (k_sea := fun j hj hi => (pk_un (by omega)).trans (R.sea j hj hi))
    (k_level := fun j hj => (pk_un (by omega)).trans (R.level j hj))
    (k_ridged := fun j hj => (pk_un (by omega)).trans (R.ridged j hj))
    (k_chan := fun j hj => (pk_un (by omega)).trans (R.chan j hj))
    (k_fast := fun j hj hi => (pk_un (by omega)).trans (R.fast j hj hi))
    (k_str := fun j hj => (pk_un (by omega)).trans (R.str j hj))
    (k_fuel := fun j hj => (pk_un (by omega)).trans (R.fuel j hj))
    (k_prow := fun j hj => (pk_un (by omega)).trans (R.prow j hj))
    (k_pcol := fun j hj => (pk_un (by omega)).trans (R.pcol j hj))
    (k_told := fun j hj => (pk_un (by omega)).trans (R.told j hj))
    (k_moved := fun j hj => by
    by_cases e : j = k
    · subst e; exact pk_us.trans pk_us.symm
    · exact (pk_un (by omega)).trans ((R.moved j hj).trans (pk_un e).symm))
    (k_line := fun j hj => (pk_un (by omega)).trans (R.line j hj))
    (k_done := fun j hj => (pk_un (by omega)).trans (R.done j hj))
    (k_ord := fun j hj => by rw [pk_un (by omega), show (fun i => upd all (360 + 12 * k + 5) v (3460 + 80 * j + i)) = fun i => all (3460 + 80 * j + i) from funext fun i => pk_un (by omega), show (fun i => upd all (360 + 12 * k + 5) v (4100 + 780 * j + i)) = fun i => all (4100 + 780 * j + i) from funext fun i => pk_un (by omega)]; exact R.ord j hj)
    (k_cold := fun j hj => (pk_un (by omega)).trans (R.cold j hj))
    (k_way := fun j hj => (pk_un (by omega)).trans (R.way j hj))
    (k_force := fun j hj => (pk_un (by omega)).trans (R.force j hj))
    (k_od := R.od)

theorem Rg.setLine {om : Nat → Option OR} {all : Nat → Int32} {g : GU} (R : Rg om all g) (k : Nat) (v : Int32) (hs : g.size ≤ 8) (hk : k < 8) : Rg om (upd all (360 + 12 * k + 6) v) ((g.rows, g.cols, g.size, g.hour, g.laid, g.grown, g.melted, g.sea, g.fast, g.level, g.ridged, g.chan, g.str, g.fuel, g.place, g.told, g.moved, (upd g.line k v), g.done, g.ord, g.cold, g.way, g.force) : GU) :=
  Rg.mk'
    (k_rows := (pk_un (by omega)).trans R.rows)
    (k_cols := (pk_un (by omega)).trans R.cols)
    (k_size := (pk_un (by omega)).trans R.size)
    (k_hour := (pk_un (by omega)).trans R.hour)
    (k_laid := (pk_un (by omega)).trans R.laid)
    (k_grown := (pk_un (by omega)).trans R.grown)
    (k_melted := (pk_un (by omega)).trans R.melted)
    (k_sea := fun j hj hi => (pk_un (by omega)).trans (R.sea j hj hi))
    (k_level := fun j hj => (pk_un (by omega)).trans (R.level j hj))
    (k_ridged := fun j hj => (pk_un (by omega)).trans (R.ridged j hj))
    (k_chan := fun j hj => (pk_un (by omega)).trans (R.chan j hj))
    (k_fast := fun j hj hi => (pk_un (by omega)).trans (R.fast j hj hi))
    (k_str := fun j hj => (pk_un (by omega)).trans (R.str j hj))
    (k_fuel := fun j hj => (pk_un (by omega)).trans (R.fuel j hj))
    (k_prow := fun j hj => (pk_un (by omega)).trans (R.prow j hj))
    (k_pcol := fun j hj => (pk_un (by omega)).trans (R.pcol j hj))
    (k_told := fun j hj => (pk_un (by omega)).trans (R.told j hj))
    (k_moved := fun j hj => (pk_un (by omega)).trans (R.moved j hj))
    (k_line := fun j hj => by
    by_cases e : j = k
    · subst e; exact pk_us.trans pk_us.symm
    · exact (pk_un (by omega)).trans ((R.line j hj).trans (pk_un e).symm))
    (k_done := fun j hj => (pk_un (by omega)).trans (R.done j hj))
    (k_ord := fun j hj => by rw [pk_un (by omega), show (fun i => upd all (360 + 12 * k + 6) v (3460 + 80 * j + i)) = fun i => all (3460 + 80 * j + i) from funext fun i => pk_un (by omega), show (fun i => upd all (360 + 12 * k + 6) v (4100 + 780 * j + i)) = fun i => all (4100 + 780 * j + i) from funext fun i => pk_un (by omega)]; exact R.ord j hj)
    (k_cold := fun j hj => (pk_un (by omega)).trans (R.cold j hj))
    (k_way := fun j hj => (pk_un (by omega)).trans (R.way j hj))
    (k_force := fun j hj => (pk_un (by omega)).trans (R.force j hj))
    (k_od := R.od)

theorem Rg.setDone {om : Nat → Option OR} {all : Nat → Int32} {g : GU} (R : Rg om all g) (k : Nat) (v : Int32) (hs : g.size ≤ 8) (hk : k < 8) : Rg om (upd all (360 + 12 * k + 7) v) ((g.rows, g.cols, g.size, g.hour, g.laid, g.grown, g.melted, g.sea, g.fast, g.level, g.ridged, g.chan, g.str, g.fuel, g.place, g.told, g.moved, g.line, (upd g.done k v), g.ord, g.cold, g.way, g.force) : GU) :=
  Rg.mk'
    (k_rows := (pk_un (by omega)).trans R.rows)
    (k_cols := (pk_un (by omega)).trans R.cols)
    (k_size := (pk_un (by omega)).trans R.size)
    (k_hour := (pk_un (by omega)).trans R.hour)
    (k_laid := (pk_un (by omega)).trans R.laid)
    (k_grown := (pk_un (by omega)).trans R.grown)
    (k_melted := (pk_un (by omega)).trans R.melted)
    (k_sea := fun j hj hi => (pk_un (by omega)).trans (R.sea j hj hi))
    (k_level := fun j hj => (pk_un (by omega)).trans (R.level j hj))
    (k_ridged := fun j hj => (pk_un (by omega)).trans (R.ridged j hj))
    (k_chan := fun j hj => (pk_un (by omega)).trans (R.chan j hj))
    (k_fast := fun j hj hi => (pk_un (by omega)).trans (R.fast j hj hi))
    (k_str := fun j hj => (pk_un (by omega)).trans (R.str j hj))
    (k_fuel := fun j hj => (pk_un (by omega)).trans (R.fuel j hj))
    (k_prow := fun j hj => (pk_un (by omega)).trans (R.prow j hj))
    (k_pcol := fun j hj => (pk_un (by omega)).trans (R.pcol j hj))
    (k_told := fun j hj => (pk_un (by omega)).trans (R.told j hj))
    (k_moved := fun j hj => (pk_un (by omega)).trans (R.moved j hj))
    (k_line := fun j hj => (pk_un (by omega)).trans (R.line j hj))
    (k_done := fun j hj => by
    by_cases e : j = k
    · subst e; exact pk_us.trans pk_us.symm
    · exact (pk_un (by omega)).trans ((R.done j hj).trans (pk_un e).symm))
    (k_ord := fun j hj => by rw [pk_un (by omega), show (fun i => upd all (360 + 12 * k + 7) v (3460 + 80 * j + i)) = fun i => all (3460 + 80 * j + i) from funext fun i => pk_un (by omega), show (fun i => upd all (360 + 12 * k + 7) v (4100 + 780 * j + i)) = fun i => all (4100 + 780 * j + i) from funext fun i => pk_un (by omega)]; exact R.ord j hj)
    (k_cold := fun j hj => (pk_un (by omega)).trans (R.cold j hj))
    (k_way := fun j hj => (pk_un (by omega)).trans (R.way j hj))
    (k_force := fun j hj => (pk_un (by omega)).trans (R.force j hj))
    (k_od := R.od)

theorem Rg.setLaid {om : Nat → Option OR} {all : Nat → Int32} {g : GU} (R : Rg om all g) (v : Int32) (hs : g.size ≤ 8) : Rg om (upd all (4) v) ((g.rows, g.cols, g.size, g.hour, (v), g.grown, g.melted, g.sea, g.fast, g.level, g.ridged, g.chan, g.str, g.fuel, g.place, g.told, g.moved, g.line, g.done, g.ord, g.cold, g.way, g.force) : GU) :=
  Rg.mk'
    (k_rows := (pk_un (by omega)).trans R.rows)
    (k_cols := (pk_un (by omega)).trans R.cols)
    (k_size := (pk_un (by omega)).trans R.size)
    (k_hour := (pk_un (by omega)).trans R.hour)
    (k_laid := pk_us)
    (k_grown := (pk_un (by omega)).trans R.grown)
    (k_melted := (pk_un (by omega)).trans R.melted)
    (k_sea := fun j hj hi => (pk_un (by omega)).trans (R.sea j hj hi))
    (k_level := fun j hj => (pk_un (by omega)).trans (R.level j hj))
    (k_ridged := fun j hj => (pk_un (by omega)).trans (R.ridged j hj))
    (k_chan := fun j hj => (pk_un (by omega)).trans (R.chan j hj))
    (k_fast := fun j hj hi => (pk_un (by omega)).trans (R.fast j hj hi))
    (k_str := fun j hj => (pk_un (by omega)).trans (R.str j hj))
    (k_fuel := fun j hj => (pk_un (by omega)).trans (R.fuel j hj))
    (k_prow := fun j hj => (pk_un (by omega)).trans (R.prow j hj))
    (k_pcol := fun j hj => (pk_un (by omega)).trans (R.pcol j hj))
    (k_told := fun j hj => (pk_un (by omega)).trans (R.told j hj))
    (k_moved := fun j hj => (pk_un (by omega)).trans (R.moved j hj))
    (k_line := fun j hj => (pk_un (by omega)).trans (R.line j hj))
    (k_done := fun j hj => (pk_un (by omega)).trans (R.done j hj))
    (k_ord := fun j hj => by rw [pk_un (by omega), show (fun i => upd all (4) v (3460 + 80 * j + i)) = fun i => all (3460 + 80 * j + i) from funext fun i => pk_un (by omega), show (fun i => upd all (4) v (4100 + 780 * j + i)) = fun i => all (4100 + 780 * j + i) from funext fun i => pk_un (by omega)]; exact R.ord j hj)
    (k_cold := fun j hj => (pk_un (by omega)).trans (R.cold j hj))
    (k_way := fun j hj => (pk_un (by omega)).trans (R.way j hj))
    (k_force := fun j hj => (pk_un (by omega)).trans (R.force j hj))
    (k_od := R.od)

theorem Rg.setGrown {om : Nat → Option OR} {all : Nat → Int32} {g : GU} (R : Rg om all g) (v : Int32) (hs : g.size ≤ 8) : Rg om (upd all (5) v) ((g.rows, g.cols, g.size, g.hour, g.laid, (v), g.melted, g.sea, g.fast, g.level, g.ridged, g.chan, g.str, g.fuel, g.place, g.told, g.moved, g.line, g.done, g.ord, g.cold, g.way, g.force) : GU) :=
  Rg.mk'
    (k_rows := (pk_un (by omega)).trans R.rows)
    (k_cols := (pk_un (by omega)).trans R.cols)
    (k_size := (pk_un (by omega)).trans R.size)
    (k_hour := (pk_un (by omega)).trans R.hour)
    (k_laid := (pk_un (by omega)).trans R.laid)
    (k_grown := pk_us)
    (k_melted := (pk_un (by omega)).trans R.melted)
    (k_sea := fun j hj hi => (pk_un (by omega)).trans (R.sea j hj hi))
    (k_level := fun j hj => (pk_un (by omega)).trans (R.level j hj))
    (k_ridged := fun j hj => (pk_un (by omega)).trans (R.ridged j hj))
    (k_chan := fun j hj => (pk_un (by omega)).trans (R.chan j hj))
    (k_fast := fun j hj hi => (pk_un (by omega)).trans (R.fast j hj hi))
    (k_str := fun j hj => (pk_un (by omega)).trans (R.str j hj))
    (k_fuel := fun j hj => (pk_un (by omega)).trans (R.fuel j hj))
    (k_prow := fun j hj => (pk_un (by omega)).trans (R.prow j hj))
    (k_pcol := fun j hj => (pk_un (by omega)).trans (R.pcol j hj))
    (k_told := fun j hj => (pk_un (by omega)).trans (R.told j hj))
    (k_moved := fun j hj => (pk_un (by omega)).trans (R.moved j hj))
    (k_line := fun j hj => (pk_un (by omega)).trans (R.line j hj))
    (k_done := fun j hj => (pk_un (by omega)).trans (R.done j hj))
    (k_ord := fun j hj => by rw [pk_un (by omega), show (fun i => upd all (5) v (3460 + 80 * j + i)) = fun i => all (3460 + 80 * j + i) from funext fun i => pk_un (by omega), show (fun i => upd all (5) v (4100 + 780 * j + i)) = fun i => all (4100 + 780 * j + i) from funext fun i => pk_un (by omega)]; exact R.ord j hj)
    (k_cold := fun j hj => (pk_un (by omega)).trans (R.cold j hj))
    (k_way := fun j hj => (pk_un (by omega)).trans (R.way j hj))
    (k_force := fun j hj => (pk_un (by omega)).trans (R.force j hj))
    (k_od := R.od)

theorem Rg.setMelted {om : Nat → Option OR} {all : Nat → Int32} {g : GU} (R : Rg om all g) (v : Int32) (hs : g.size ≤ 8) : Rg om (upd all (6) v) ((g.rows, g.cols, g.size, g.hour, g.laid, g.grown, (v), g.sea, g.fast, g.level, g.ridged, g.chan, g.str, g.fuel, g.place, g.told, g.moved, g.line, g.done, g.ord, g.cold, g.way, g.force) : GU) :=
  Rg.mk'
    (k_rows := (pk_un (by omega)).trans R.rows)
    (k_cols := (pk_un (by omega)).trans R.cols)
    (k_size := (pk_un (by omega)).trans R.size)
    (k_hour := (pk_un (by omega)).trans R.hour)
    (k_laid := (pk_un (by omega)).trans R.laid)
    (k_grown := (pk_un (by omega)).trans R.grown)
    (k_melted := pk_us)
    (k_sea := fun j hj hi => (pk_un (by omega)).trans (R.sea j hj hi))
    (k_level := fun j hj => (pk_un (by omega)).trans (R.level j hj))
    (k_ridged := fun j hj => (pk_un (by omega)).trans (R.ridged j hj))
    (k_chan := fun j hj => (pk_un (by omega)).trans (R.chan j hj))
    (k_fast := fun j hj hi => (pk_un (by omega)).trans (R.fast j hj hi))
    (k_str := fun j hj => (pk_un (by omega)).trans (R.str j hj))
    (k_fuel := fun j hj => (pk_un (by omega)).trans (R.fuel j hj))
    (k_prow := fun j hj => (pk_un (by omega)).trans (R.prow j hj))
    (k_pcol := fun j hj => (pk_un (by omega)).trans (R.pcol j hj))
    (k_told := fun j hj => (pk_un (by omega)).trans (R.told j hj))
    (k_moved := fun j hj => (pk_un (by omega)).trans (R.moved j hj))
    (k_line := fun j hj => (pk_un (by omega)).trans (R.line j hj))
    (k_done := fun j hj => (pk_un (by omega)).trans (R.done j hj))
    (k_ord := fun j hj => by rw [pk_un (by omega), show (fun i => upd all (6) v (3460 + 80 * j + i)) = fun i => all (3460 + 80 * j + i) from funext fun i => pk_un (by omega), show (fun i => upd all (6) v (4100 + 780 * j + i)) = fun i => all (4100 + 780 * j + i) from funext fun i => pk_un (by omega)]; exact R.ord j hj)
    (k_cold := fun j hj => (pk_un (by omega)).trans (R.cold j hj))
    (k_way := fun j hj => (pk_un (by omega)).trans (R.way j hj))
    (k_force := fun j hj => (pk_un (by omega)).trans (R.force j hj))
    (k_od := R.od)

theorem TxR.congr {r : OR} {ln ac ln' ac' : Nat → Int32} (T : TxR r ln ac) (h1 : ∀ k, k < 80 → ln' k = ln k) (h2 : ∀ k, k < 780 → ac' k = ac k) : TxR r ln' ac' :=
  TxR.mk'
    (k_ok := T.ok)
    (k_frm := fun k hk => (h1 _ (by have := T.ok.l; omega)).trans (T.frm k hk))
    (k_til := fun k hk => (h1 _ (by have := T.ok.l; omega)).trans (T.til k hk))
    (k_act := fun k hk => by rw [h1 _ (by have := T.ok.l; omega)]; exact T.act k hk)
    (k_num := fun k hk => (h1 _ (by have := T.ok.l; omega)).trans (T.num k hk))
    (k_st := fun i hi => by rw [h2 _ (by have := T.ok.n; omega), h2 _ (by have := T.ok.n; omega), h2 _ (by have := T.ok.n; omega)]; exact T.st i hi)
theorem OrdR.congr {om : Nat → Option OR} {o : Option Nat} {n : Int32} {ln ac ln' ac' : Nat → Int32} (T : OrdR om o n ln ac) (h1 : ∀ k, k < 80 → ln' k = ln k) (h2 : ∀ k, k < 780 → ac' k = ac k) : OrdR om o n ln' ac' := by
  unfold OrdR at *
  cases o with
  | none => exact T
  | some a => obtain ⟨r, e1, e2, e3⟩ := T; exact ⟨r, e1, e2, e3.congr h1 h2⟩
theorem Rg.congr {om : Nat → Option OR} {all all' : Nat → Int32} {g : GU} (R : Rg om all g) (hs : g.size ≤ 8) (h : ∀ i, (i < 7 ∨ 40 ≤ i ∧ i < 10340) → all' i = all i) : Rg om all' g :=
  Rg.mk'
    (k_rows := (h _ (by omega)).trans R.rows)
    (k_cols := (h _ (by omega)).trans R.cols)
    (k_size := (h _ (by omega)).trans R.size)
    (k_hour := (h _ (by omega)).trans R.hour)
    (k_laid := (h _ (by omega)).trans R.laid)
    (k_grown := (h _ (by omega)).trans R.grown)
    (k_melted := (h _ (by omega)).trans R.melted)
    (k_sea := fun j hj hi => (h _ (by omega)).trans (R.sea j hj hi))
    (k_level := fun j hj => (h _ (by omega)).trans (R.level j hj))
    (k_ridged := fun j hj => (h _ (by omega)).trans (R.ridged j hj))
    (k_chan := fun j hj => (h _ (by omega)).trans (R.chan j hj))
    (k_fast := fun j hj hi => (h _ (by omega)).trans (R.fast j hj hi))
    (k_str := fun j hj => (h _ (by omega)).trans (R.str j hj))
    (k_fuel := fun j hj => (h _ (by omega)).trans (R.fuel j hj))
    (k_prow := fun j hj => (h _ (by omega)).trans (R.prow j hj))
    (k_pcol := fun j hj => (h _ (by omega)).trans (R.pcol j hj))
    (k_told := fun j hj => (h _ (by omega)).trans (R.told j hj))
    (k_moved := fun j hj => (h _ (by omega)).trans (R.moved j hj))
    (k_line := fun j hj => (h _ (by omega)).trans (R.line j hj))
    (k_done := fun j hj => (h _ (by omega)).trans (R.done j hj))
    (k_ord := fun j hj => by rw [h _ (by omega)]; exact (R.ord j hj).congr (fun k hk => h _ (by omega)) (fun k hk => h _ (by omega)))
    (k_cold := fun j hj => (h _ (by omega)).trans (R.cold j hj))
    (k_way := fun j hj => (h _ (by omega)).trans (R.way j hj))
    (k_force := fun j hj => (h _ (by omega)).trans (R.force j hj))
    (k_od := R.od)
/-- all that an image keeps -/
abbrev WH : Type := (GU) × (Nat) × (Nat → Int32) × (Int32) × (Int32) × (Nat) × (Nat → Int32) × (Nat → Int32) × (Nat → Int32) × (Nat) × (Nat → Int32)
abbrev WH.g (g : WH) : GU := g.1
abbrev WH.tlen (g : WH) : Nat := g.2.1
abbrev WH.tape (g : WH) : Nat → Int32 := g.2.2.1
abbrev WH.fault (g : WH) : Int32 := g.2.2.2.1
abbrev WH.place (g : WH) : Int32 := g.2.2.2.2.1
abbrev WH.psize (g : WH) : Nat := g.2.2.2.2.2.1
abbrev WH.frm (g : WH) : Nat → Int32 := g.2.2.2.2.2.2.1
abbrev WH.takes (g : WH) : Nat → Int32 := g.2.2.2.2.2.2.2.1
abbrev WH.worth (g : WH) : Nat → Int32 := g.2.2.2.2.2.2.2.2.1
abbrev WH.ssize (g : WH) : Nat := g.2.2.2.2.2.2.2.2.2.1
abbrev WH.settled (g : WH) : Nat → Int32 := g.2.2.2.2.2.2.2.2.2.2
def WfW (w : WH) : Prop := (Wf w.g) ∧ (w.tlen ≤ 400) ∧ (∀ i, i < w.tlen → ∃ b : Nat, b < 256 ∧ w.tape i = nI b) ∧ (w.psize ≤ 6) ∧ (∀ k, k < w.psize → ∃ b : Nat, b ≤ 1000 ∧ w.frm k = nI b) ∧ (∀ k, k < w.psize → ∃ b : Nat, b ≤ 100 ∧ w.takes k = nI b) ∧ (∀ k, k < w.psize → ∃ b : Nat, b ≤ 100 ∧ w.worth k = nI b) ∧ (w.ssize ≤ 6)
theorem WfW.g {w : WH} (h_ : WfW w) : Wf w.g := h_.1
theorem WfW.tlen {w : WH} (h_ : WfW w) : w.tlen ≤ 400 := h_.2.1
theorem WfW.tape {w : WH} (h_ : WfW w) : ∀ i, i < w.tlen → ∃ b : Nat, b < 256 ∧ w.tape i = nI b := h_.2.2.1
theorem WfW.psize {w : WH} (h_ : WfW w) : w.psize ≤ 6 := h_.2.2.2.1
theorem WfW.frm {w : WH} (h_ : WfW w) : ∀ k, k < w.psize → ∃ b : Nat, b ≤ 1000 ∧ w.frm k = nI b := h_.2.2.2.2.1
theorem WfW.takes {w : WH} (h_ : WfW w) : ∀ k, k < w.psize → ∃ b : Nat, b ≤ 100 ∧ w.takes k = nI b := h_.2.2.2.2.2.1
theorem WfW.worth {w : WH} (h_ : WfW w) : ∀ k, k < w.psize → ∃ b : Nat, b ≤ 100 ∧ w.worth k = nI b := h_.2.2.2.2.2.2.1
theorem WfW.ssize {w : WH} (h_ : WfW w) : w.ssize ≤ 6 := h_.2.2.2.2.2.2.2
theorem WfW.mk' {w : WH} (k_g : Wf w.g) (k_tlen : w.tlen ≤ 400) (k_tape : ∀ i, i < w.tlen → ∃ b : Nat, b < 256 ∧ w.tape i = nI b) (k_psize : w.psize ≤ 6) (k_frm : ∀ k, k < w.psize → ∃ b : Nat, b ≤ 1000 ∧ w.frm k = nI b) (k_takes : ∀ k, k < w.psize → ∃ b : Nat, b ≤ 100 ∧ w.takes k = nI b) (k_worth : ∀ k, k < w.psize → ∃ b : Nat, b ≤ 100 ∧ w.worth k = nI b) (k_ssize : w.ssize ≤ 6) : WfW w := ⟨k_g, k_tlen, k_tape, k_psize, k_frm, k_takes, k_worth, k_ssize⟩
def RW (om : Nat → Option OR) (all : Nat → Int32) (w : WH) : Prop := (Rg om all w.g) ∧ (all 9 = nI w.tlen) ∧ (∀ i, i < w.tlen → all (10340 + i) = w.tape i) ∧ (all 10 = w.fault) ∧ (all 11 = w.place) ∧ (all 7 = nI w.psize) ∧ (∀ k, k < w.psize → all (20 + 3 * k) = w.frm k) ∧ (∀ k, k < w.psize → all (20 + 3 * k + 1) = w.takes k) ∧ (∀ k, k < w.psize → all (20 + 3 * k + 2) = w.worth k) ∧ (all 8 = nI w.ssize) ∧ (∀ k, k < w.ssize → all (12 + k) = w.settled k)
theorem RW.g {om : Nat → Option OR} {all : Nat → Int32} {w : WH} (h_ : RW om all w) : Rg om all w.g := h_.1
theorem RW.tlen {om : Nat → Option OR} {all : Nat → Int32} {w : WH} (h_ : RW om all w) : all 9 = nI w.tlen := h_.2.1
theorem RW.tape {om : Nat → Option OR} {all : Nat → Int32} {w : WH} (h_ : RW om all w) : ∀ i, i < w.tlen → all (10340 + i) = w.tape i := h_.2.2.1
theorem RW.fault {om : Nat → Option OR} {all : Nat → Int32} {w : WH} (h_ : RW om all w) : all 10 = w.fault := h_.2.2.2.1
theorem RW.place {om : Nat → Option OR} {all : Nat → Int32} {w : WH} (h_ : RW om all w) : all 11 = w.place := h_.2.2.2.2.1
theorem RW.psize {om : Nat → Option OR} {all : Nat → Int32} {w : WH} (h_ : RW om all w) : all 7 = nI w.psize := h_.2.2.2.2.2.1
theorem RW.frm {om : Nat → Option OR} {all : Nat → Int32} {w : WH} (h_ : RW om all w) : ∀ k, k < w.psize → all (20 + 3 * k) = w.frm k := h_.2.2.2.2.2.2.1
theorem RW.takes {om : Nat → Option OR} {all : Nat → Int32} {w : WH} (h_ : RW om all w) : ∀ k, k < w.psize → all (20 + 3 * k + 1) = w.takes k := h_.2.2.2.2.2.2.2.1
theorem RW.worth {om : Nat → Option OR} {all : Nat → Int32} {w : WH} (h_ : RW om all w) : ∀ k, k < w.psize → all (20 + 3 * k + 2) = w.worth k := h_.2.2.2.2.2.2.2.2.1
theorem RW.ssize {om : Nat → Option OR} {all : Nat → Int32} {w : WH} (h_ : RW om all w) : all 8 = nI w.ssize := h_.2.2.2.2.2.2.2.2.2.1
theorem RW.settled {om : Nat → Option OR} {all : Nat → Int32} {w : WH} (h_ : RW om all w) : ∀ k, k < w.ssize → all (12 + k) = w.settled k := h_.2.2.2.2.2.2.2.2.2.2
theorem RW.mk' {om : Nat → Option OR} {all : Nat → Int32} {w : WH} (k_g : Rg om all w.g) (k_tlen : all 9 = nI w.tlen) (k_tape : ∀ i, i < w.tlen → all (10340 + i) = w.tape i) (k_fault : all 10 = w.fault) (k_place : all 11 = w.place) (k_psize : all 7 = nI w.psize) (k_frm : ∀ k, k < w.psize → all (20 + 3 * k) = w.frm k) (k_takes : ∀ k, k < w.psize → all (20 + 3 * k + 1) = w.takes k) (k_worth : ∀ k, k < w.psize → all (20 + 3 * k + 2) = w.worth k) (k_ssize : all 8 = nI w.ssize) (k_settled : ∀ k, k < w.ssize → all (12 + k) = w.settled k) : RW om all w := ⟨k_g, k_tlen, k_tape, k_fault, k_place, k_psize, k_frm, k_takes, k_worth, k_ssize, k_settled⟩
/-- from a change of the gulf's own part alone -/
theorem RW.gulf {om : Nat → Option OR} {all all' : Nat → Int32} {w : WH} {g' : GU} (R : RW om all w) (hw : WfW w) (R' : Rg om all' g') (h : ∀ i, (7 ≤ i ∧ i < 40 ∨ 10340 ≤ i) → all' i = all i) : RW om all' (((g'), w.tlen, w.tape, w.fault, w.place, w.psize, w.frm, w.takes, w.worth, w.ssize, w.settled) : WH) :=
  RW.mk'
    (k_g := R')
    (k_tlen := (h _ (by omega)).trans R.tlen)
    (k_tape := fun i hi => (h _ (by omega)).trans (R.tape i hi))
    (k_fault := (h _ (by omega)).trans R.fault)
    (k_place := (h _ (by omega)).trans R.place)
    (k_psize := (h _ (by omega)).trans R.psize)
    (k_frm := fun k (hk : k < w.psize) => (h _ (by have := hw.psize; omega)).trans (R.frm k hk))
    (k_takes := fun k (hk : k < w.psize) => (h _ (by have := hw.psize; omega)).trans (R.takes k hk))
    (k_worth := fun k (hk : k < w.psize) => (h _ (by have := hw.psize; omega)).trans (R.worth k hk))
    (k_ssize := (h _ (by omega)).trans R.ssize)
    (k_settled := fun k (hk : k < w.ssize) => (h _ (by have := hw.ssize; omega)).trans (R.settled k hk))
theorem RW.congr {om : Nat → Option OR} {all all' : Nat → Int32} {w : WH} (R : RW om all w) (hw : WfW w) (h : ∀ i, i < 10740 → all' i = all i) : RW om all' w :=
  RW.mk'
    (k_g := R.g.congr hw.g.s8 (fun i hi => h i (by omega)))
    (k_tlen := (h _ (by omega)).trans R.tlen)
    (k_tape := fun i hi => (h _ (by have := hw.tlen; omega)).trans (R.tape i hi))
    (k_fault := (h _ (by omega)).trans R.fault)
    (k_place := (h _ (by omega)).trans R.place)
    (k_psize := (h _ (by omega)).trans R.psize)
    (k_frm := fun k hk => (h _ (by have := hw.psize; omega)).trans (R.frm k hk))
    (k_takes := fun k hk => (h _ (by have := hw.psize; omega)).trans (R.takes k hk))
    (k_worth := fun k hk => (h _ (by have := hw.psize; omega)).trans (R.worth k hk))
    (k_ssize := (h _ (by omega)).trans R.ssize)
    (k_settled := fun k hk => (h _ (by have := hw.ssize; omega)).trans (R.settled k hk))
