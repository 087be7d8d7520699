section FLD
variable {X : CX} {Λ : LY} {cc : ByteArray} {nL fr lo : Nat} {own : String} {pc pc2 : Nat} {lv lv2 : List (Nat × Value)} {st : List Value} {σ σ2 : St}
theorem vg_X9_field (C : OK X Λ cc nL own fr lo) {idx : Nat} (hw : Cond.fieldLink own idx RX9 "field" "LSunRows$Field;" ∈ wsG) (hd : decode cc pc = .ok (.getfield idx, 3)) (hp : pc2 = pc + 3) (k : VV X Λ nL pc2 lv (.ref (adr Λ 1) :: st) σ) : VV X Λ nL pc lv (.ref (adr Λ 0) :: st) σ := v_get C inG9 0 (wd0 Λ σ) rfl 0 (by decide) rfl hw rfl hd hp k
theorem vg_X9_sky (C : OK X Λ cc nL own fr lo) {idx : Nat} (hw : Cond.fieldLink own idx RX9 "sky" "LSunRows$Sky;" ∈ wsG) (hd : decode cc pc = .ok (.getfield idx, 3)) (hp : pc2 = pc + 3) (k : VV X Λ nL pc2 lv (.ref (adr Λ 2) :: st) σ) : VV X Λ nL pc lv (.ref (adr Λ 0) :: st) σ := v_get C inG9 0 (wd0 Λ σ) rfl 1 (by decide) rfl hw rfl hd hp k
theorem vg_X9_strings (C : OK X Λ cc nL own fr lo) {idx : Nat} (hw : Cond.fieldLink own idx RX9 "strings" "LSunRows$Strings;" ∈ wsG) (hd : decode cc pc = .ok (.getfield idx, 3)) (hp : pc2 = pc + 3) (k : VV X Λ nL pc2 lv (.ref (adr Λ 3) :: st) σ) : VV X Λ nL pc lv (.ref (adr Λ 0) :: st) σ := v_get C inG9 0 (wd0 Λ σ) rfl 2 (by decide) rfl hw rfl hd hp k
theorem vg_X9_weather (C : OK X Λ cc nL own fr lo) {idx : Nat} (hw : Cond.fieldLink own idx RX9 "weather" "LSunRows$Weather;" ∈ wsG) (hd : decode cc pc = .ok (.getfield idx, 3)) (hp : pc2 = pc + 3) (k : VV X Λ nL pc2 lv (.ref (adr Λ 4) :: st) σ) : VV X Λ nL pc lv (.ref (adr Λ 0) :: st) σ := v_get C inG9 0 (wd0 Λ σ) rfl 3 (by decide) rfl hw rfl hd hp k
theorem vg_X9_ledger (C : OK X Λ cc nL own fr lo) {idx : Nat} (hw : Cond.fieldLink own idx RX9 "ledger" "LSunRows$Ledger;" ∈ wsG) (hd : decode cc pc = .ok (.getfield idx, 3)) (hp : pc2 = pc + 3) (k : VV X Λ nL pc2 lv (.ref (adr Λ 5) :: st) σ) : VV X Λ nL pc lv (.ref (adr Λ 0) :: st) σ := v_get C inG9 0 (wd0 Λ σ) rfl 4 (by decide) rfl hw rfl hd hp k
theorem vg_X9_washing (C : OK X Λ cc nL own fr lo) {idx : Nat} (hw : Cond.fieldLink own idx RX9 "washing" "LSunRows$Washing;" ∈ wsG) (hd : decode cc pc = .ok (.getfield idx, 3)) (hp : pc2 = pc + 3) (k : VV X Λ nL pc2 lv (.ref (adr Λ 6) :: st) σ) : VV X Λ nL pc lv (.ref (adr Λ 0) :: st) σ := v_get C inG9 0 (wd0 Λ σ) rfl 5 (by decide) rfl hw rfl hd hp k
theorem vg_X9_tape (C : OK X Λ cc nL own fr lo) {idx : Nat} (hw : Cond.fieldLink own idx RX9 "tape" "LSunRows$Tape;" ∈ wsG) (hd : decode cc pc = .ok (.getfield idx, 3)) (hp : pc2 = pc + 3) (k : VV X Λ nL pc2 lv (.ref (adr Λ 7) :: st) σ) : VV X Λ nL pc lv (.ref (adr Λ 0) :: st) σ := v_get C inG9 0 (wd0 Λ σ) rfl 6 (by decide) rfl hw rfl hd hp k
theorem vg_X9_answered (C : OK X Λ cc nL own fr lo) {idx : Nat} (hw : Cond.fieldLink own idx RX9 "answered" "[I" ∈ wsG) (hd : decode cc pc = .ok (.getfield idx, 3)) (hp : pc2 = pc + 3) (k : VV X Λ nL pc2 lv (.ref (adr Λ 8) :: st) σ) : VV X Λ nL pc lv (.ref (adr Λ 0) :: st) σ := v_get C inG9 0 (wd0 Λ σ) rfl 7 (by decide) rfl hw rfl hd hp k
theorem vg_X9_nextHour (C : OK X Λ cc nL own fr lo) {idx : Nat} (hw : Cond.fieldLink own idx RX9 "nextHour" "I" ∈ wsG) (hd : decode cc pc = .ok (.getfield idx, 3)) (hp : pc2 = pc + 3) (k : VV X Λ nL pc2 lv (.int (gI σ 0) :: st) σ) : VV X Λ nL pc lv (.ref (adr Λ 0) :: st) σ := v_get C inG9 0 (wd0 Λ σ) rfl 8 (by decide) rfl hw rfl hd hp k
theorem vp_X9_nextHour (C : OK X Λ cc nL own fr lo) {idx : Nat} {v : Int32} (hw : Cond.fieldLink own idx RX9 "nextHour" "I" ∈ wsG) (hd : decode cc pc = .ok (.putfield idx, 3)) (hp : pc2 = pc + 3) (k : VV X Λ nL pc2 lv st (uI σ 0 v)) : VV X Λ nL pc lv (.int v :: .ref (adr Λ 0) :: st) σ := v_put C inG9 tyX9 tyX9_ok nmX9 0 (wd0 Λ σ) rfl 8 (by decide) rfl hw rfl (ty := .int) (by decide +kernel) rfl rfl (by decide : 8 < 10) (ws0_8 Λ σ v) hd hp k
theorem vg_X9_latestTarget (C : OK X Λ cc nL own fr lo) {idx : Nat} (hw : Cond.fieldLink own idx RX9 "latestTarget" "I" ∈ wsG) (hd : decode cc pc = .ok (.getfield idx, 3)) (hp : pc2 = pc + 3) (k : VV X Λ nL pc2 lv (.int (gI σ 1) :: st) σ) : VV X Λ nL pc lv (.ref (adr Λ 0) :: st) σ := v_get C inG9 0 (wd0 Λ σ) rfl 9 (by decide) rfl hw rfl hd hp k
theorem vp_X9_latestTarget (C : OK X Λ cc nL own fr lo) {idx : Nat} {v : Int32} (hw : Cond.fieldLink own idx RX9 "latestTarget" "I" ∈ wsG) (hd : decode cc pc = .ok (.putfield idx, 3)) (hp : pc2 = pc + 3) (k : VV X Λ nL pc2 lv st (uI σ 1 v)) : VV X Λ nL pc lv (.int v :: .ref (adr Λ 0) :: st) σ := v_put C inG9 tyX9 tyX9_ok nmX9 0 (wd0 Λ σ) rfl 9 (by decide) rfl hw rfl (ty := .int) (by decide +kernel) rfl rfl (by decide : 9 < 10) (ws0_9 Λ σ v) hd hp k
theorem vg_X0_rows (C : OK X Λ cc nL own fr lo) {idx : Nat} (hw : Cond.fieldLink own idx RX0 "rows" "[LSunRows$Row;" ∈ wsG) (hd : decode cc pc = .ok (.getfield idx, 3)) (hp : pc2 = pc + 3) (k : VV X Λ nL pc2 lv (.ref (adr Λ 9) :: st) σ) : VV X Λ nL pc lv (.ref (adr Λ 1) :: st) σ := v_get C inG0 1 (wd1 Λ σ) rfl 0 (by decide) rfl hw rfl hd hp k
theorem vg_X0_looks (C : OK X Λ cc nL own fr lo) {idx : Nat} (hw : Cond.fieldLink own idx RX0 "looks" "LSunRows$Looks;" ∈ wsG) (hd : decode cc pc = .ok (.getfield idx, 3)) (hp : pc2 = pc + 3) (k : VV X Λ nL pc2 lv (.ref (adr Λ 10) :: st) σ) : VV X Λ nL pc lv (.ref (adr Λ 1) :: st) σ := v_get C inG0 1 (wd1 Λ σ) rfl 1 (by decide) rfl hw rfl hd hp k
theorem vg_X0_unshaded (C : OK X Λ cc nL own fr lo) {idx : Nat} (hw : Cond.fieldLink own idx RX0 "unshaded" "[J" ∈ wsG) (hd : decode cc pc = .ok (.getfield idx, 3)) (hp : pc2 = pc + 3) (k : VV X Λ nL pc2 lv (.ref (adr Λ 11) :: st) σ) : VV X Λ nL pc lv (.ref (adr Λ 1) :: st) σ := v_get C inG0 1 (wd1 Λ σ) rfl 2 (by decide) rfl hw rfl hd hp k
theorem vg_X0_taken (C : OK X Λ cc nL own fr lo) {idx : Nat} (hw : Cond.fieldLink own idx RX0 "taken" "[J" ∈ wsG) (hd : decode cc pc = .ok (.getfield idx, 3)) (hp : pc2 = pc + 3) (k : VV X Λ nL pc2 lv (.ref (adr Λ 12) :: st) σ) : VV X Λ nL pc lv (.ref (adr Λ 1) :: st) σ := v_get C inG0 1 (wd1 Λ σ) rfl 3 (by decide) rfl hw rfl hd hp k
theorem vg_X0_currents (C : OK X Λ cc nL own fr lo) {idx : Nat} (hw : Cond.fieldLink own idx RX0 "currents" "[I" ∈ wsG) (hd : decode cc pc = .ok (.getfield idx, 3)) (hp : pc2 = pc + 3) (k : VV X Λ nL pc2 lv (.ref (adr Λ 13) :: st) σ) : VV X Λ nL pc lv (.ref (adr Λ 1) :: st) σ := v_get C inG0 1 (wd1 Λ σ) rfl 4 (by decide) rfl hw rfl hd hp k
theorem vg_X0_count (C : OK X Λ cc nL own fr lo) {idx : Nat} (hw : Cond.fieldLink own idx RX0 "count" "I" ∈ wsG) (hd : decode cc pc = .ok (.getfield idx, 3)) (hp : pc2 = pc + 3) (k : VV X Λ nL pc2 lv (.int (gI σ 2) :: st) σ) : VV X Λ nL pc lv (.ref (adr Λ 1) :: st) σ := v_get C inG0 1 (wd1 Λ σ) rfl 5 (by decide) rfl hw rfl hd hp k
theorem vp_X0_count (C : OK X Λ cc nL own fr lo) {idx : Nat} {v : Int32} (hw : Cond.fieldLink own idx RX0 "count" "I" ∈ wsG) (hd : decode cc pc = .ok (.putfield idx, 3)) (hp : pc2 = pc + 3) (k : VV X Λ nL pc2 lv st (uI σ 2 v)) : VV X Λ nL pc lv (.int v :: .ref (adr Λ 1) :: st) σ := v_put C inG0 tyX0 tyX0_ok nmX0 1 (wd1 Λ σ) rfl 5 (by decide) rfl hw rfl (ty := .int) (by decide +kernel) rfl rfl (by decide : 5 < 7) (ws1_5 Λ σ v) hd hp k
theorem vg_X0_sunX (C : OK X Λ cc nL own fr lo) {idx : Nat} (hw : Cond.fieldLink own idx RX0 "sunX" "I" ∈ wsG) (hd : decode cc pc = .ok (.getfield idx, 3)) (hp : pc2 = pc + 3) (k : VV X Λ nL pc2 lv (.int (gI σ 3) :: st) σ) : VV X Λ nL pc lv (.ref (adr Λ 1) :: st) σ := v_get C inG0 1 (wd1 Λ σ) rfl 6 (by decide) rfl hw rfl hd hp k
theorem vp_X0_sunX (C : OK X Λ cc nL own fr lo) {idx : Nat} {v : Int32} (hw : Cond.fieldLink own idx RX0 "sunX" "I" ∈ wsG) (hd : decode cc pc = .ok (.putfield idx, 3)) (hp : pc2 = pc + 3) (k : VV X Λ nL pc2 lv st (uI σ 3 v)) : VV X Λ nL pc lv (.int v :: .ref (adr Λ 1) :: st) σ := v_put C inG0 tyX0 tyX0_ok nmX0 1 (wd1 Λ σ) rfl 6 (by decide) rfl hw rfl (ty := .int) (by decide +kernel) rfl rfl (by decide : 6 < 7) (ws1_6 Λ σ v) hd hp k
theorem vg_X4_x (C : OK X Λ cc nL own fr lo) {idx : Nat} (hw : Cond.fieldLink own idx RX4 "x" "[I" ∈ wsG) (hd : decode cc pc = .ok (.getfield idx, 3)) (hp : pc2 = pc + 3) (k : VV X Λ nL pc2 lv (.ref (adr Λ 14) :: st) σ) : VV X Λ nL pc lv (.ref (adr Λ 2) :: st) σ := v_get C inG4 2 (wd2 Λ σ) rfl 0 (by decide) rfl hw rfl hd hp k
theorem vg_X4_y (C : OK X Λ cc nL own fr lo) {idx : Nat} (hw : Cond.fieldLink own idx RX4 "y" "[I" ∈ wsG) (hd : decode cc pc = .ok (.getfield idx, 3)) (hp : pc2 = pc + 3) (k : VV X Λ nL pc2 lv (.ref (adr Λ 15) :: st) σ) : VV X Λ nL pc lv (.ref (adr Λ 2) :: st) σ := v_get C inG4 2 (wd2 Λ σ) rfl 1 (by decide) rfl hw rfl hd hp k
theorem vg_X5_ceilings (C : OK X Λ cc nL own fr lo) {idx : Nat} (hw : Cond.fieldLink own idx RX5 "ceilings" "[I" ∈ wsG) (hd : decode cc pc = .ok (.getfield idx, 3)) (hp : pc2 = pc + 3) (k : VV X Λ nL pc2 lv (.ref (adr Λ 16) :: st) σ) : VV X Λ nL pc lv (.ref (adr Λ 3) :: st) σ := v_get C inG5 3 (wd3 Λ σ) rfl 0 (by decide) rfl hw rfl hd hp k
theorem vg_X5_ranked (C : OK X Λ cc nL own fr lo) {idx : Nat} (hw : Cond.fieldLink own idx RX5 "ranked" "[I" ∈ wsG) (hd : decode cc pc = .ok (.getfield idx, 3)) (hp : pc2 = pc + 3) (k : VV X Λ nL pc2 lv (.ref (adr Λ 17) :: st) σ) : VV X Λ nL pc lv (.ref (adr Λ 3) :: st) σ := v_get C inG5 3 (wd3 Λ σ) rfl 1 (by decide) rfl hw rfl hd hp k
theorem vg_X5_members (C : OK X Λ cc nL own fr lo) {idx : Nat} (hw : Cond.fieldLink own idx RX5 "members" "I" ∈ wsG) (hd : decode cc pc = .ok (.getfield idx, 3)) (hp : pc2 = pc + 3) (k : VV X Λ nL pc2 lv (.int (gI σ 4) :: st) σ) : VV X Λ nL pc lv (.ref (adr Λ 3) :: st) σ := v_get C inG5 3 (wd3 Λ σ) rfl 2 (by decide) rfl hw rfl hd hp k
theorem vp_X5_members (C : OK X Λ cc nL own fr lo) {idx : Nat} {v : Int32} (hw : Cond.fieldLink own idx RX5 "members" "I" ∈ wsG) (hd : decode cc pc = .ok (.putfield idx, 3)) (hp : pc2 = pc + 3) (k : VV X Λ nL pc2 lv st (uI σ 4 v)) : VV X Λ nL pc lv (.int v :: .ref (adr Λ 3) :: st) σ := v_put C inG5 tyX5 tyX5_ok nmX5 3 (wd3 Λ σ) rfl 2 (by decide) rfl hw rfl (ty := .int) (by decide +kernel) rfl rfl (by decide : 2 < 3) (ws3_2 Λ σ v) hd hp k
theorem vg_X8_readings (C : OK X Λ cc nL own fr lo) {idx : Nat} (hw : Cond.fieldLink own idx RX8 "readings" "[I" ∈ wsG) (hd : decode cc pc = .ok (.getfield idx, 3)) (hp : pc2 = pc + 3) (k : VV X Λ nL pc2 lv (.ref (adr Λ 18) :: st) σ) : VV X Λ nL pc lv (.ref (adr Λ 4) :: st) σ := v_get C inG8 4 (wd4 Λ σ) rfl 0 (by decide) rfl hw rfl hd hp k
theorem vg_X8_cleans (C : OK X Λ cc nL own fr lo) {idx : Nat} (hw : Cond.fieldLink own idx RX8 "cleans" "[Z" ∈ wsG) (hd : decode cc pc = .ok (.getfield idx, 3)) (hp : pc2 = pc + 3) (k : VV X Λ nL pc2 lv (.ref (adr Λ 19) :: st) σ) : VV X Λ nL pc lv (.ref (adr Λ 4) :: st) σ := v_get C inG8 4 (wd4 Λ σ) rfl 1 (by decide) rfl hw rfl hd hp k
theorem vg_X8_stowAt (C : OK X Λ cc nL own fr lo) {idx : Nat} (hw : Cond.fieldLink own idx RX8 "stowAt" "I" ∈ wsG) (hd : decode cc pc = .ok (.getfield idx, 3)) (hp : pc2 = pc + 3) (k : VV X Λ nL pc2 lv (.int (gI σ 5) :: st) σ) : VV X Λ nL pc lv (.ref (adr Λ 4) :: st) σ := v_get C inG8 4 (wd4 Λ σ) rfl 2 (by decide) rfl hw rfl hd hp k
theorem vp_X8_stowAt (C : OK X Λ cc nL own fr lo) {idx : Nat} {v : Int32} (hw : Cond.fieldLink own idx RX8 "stowAt" "I" ∈ wsG) (hd : decode cc pc = .ok (.putfield idx, 3)) (hp : pc2 = pc + 3) (k : VV X Λ nL pc2 lv st (uI σ 5 v)) : VV X Λ nL pc lv (.int v :: .ref (adr Λ 4) :: st) σ := v_put C inG8 tyX8 tyX8_ok nmX8 4 (wd4 Λ σ) rfl 2 (by decide) rfl hw rfl (ty := .int) (by decide +kernel) rfl rfl (by decide : 2 < 5) (ws4_2 Λ σ v) hd hp k
theorem vg_X8_lostInARow (C : OK X Λ cc nL own fr lo) {idx : Nat} (hw : Cond.fieldLink own idx RX8 "lostInARow" "I" ∈ wsG) (hd : decode cc pc = .ok (.getfield idx, 3)) (hp : pc2 = pc + 3) (k : VV X Λ nL pc2 lv (.int (gI σ 6) :: st) σ) : VV X Λ nL pc lv (.ref (adr Λ 4) :: st) σ := v_get C inG8 4 (wd4 Λ σ) rfl 3 (by decide) rfl hw rfl hd hp k
theorem vp_X8_lostInARow (C : OK X Λ cc nL own fr lo) {idx : Nat} {v : Int32} (hw : Cond.fieldLink own idx RX8 "lostInARow" "I" ∈ wsG) (hd : decode cc pc = .ok (.putfield idx, 3)) (hp : pc2 = pc + 3) (k : VV X Λ nL pc2 lv st (uI σ 6 v)) : VV X Λ nL pc lv (.int v :: .ref (adr Λ 4) :: st) σ := v_put C inG8 tyX8 tyX8_ok nmX8 4 (wd4 Λ σ) rfl 3 (by decide) rfl hw rfl (ty := .int) (by decide +kernel) rfl rfl (by decide : 3 < 5) (ws4_3 Λ σ v) hd hp k
theorem vg_X8_isStowed (C : OK X Λ cc nL own fr lo) {idx : Nat} (hw : Cond.fieldLink own idx RX8 "isStowed" "Z" ∈ wsG) (hd : decode cc pc = .ok (.getfield idx, 3)) (hp : pc2 = pc + 3) (k : VV X Λ nL pc2 lv (.int (gI σ 7) :: st) σ) : VV X Λ nL pc lv (.ref (adr Λ 4) :: st) σ := v_get C inG8 4 (wd4 Λ σ) rfl 4 (by decide) rfl hw rfl hd hp k
theorem vp_X8_isStowed (C : OK X Λ cc nL own fr lo) {idx : Nat} {v : Int32} (hv : v = 0 ∨ v = 1) (hw : Cond.fieldLink own idx RX8 "isStowed" "Z" ∈ wsG) (hd : decode cc pc = .ok (.putfield idx, 3)) (hp : pc2 = pc + 3) (k : VV X Λ nL pc2 lv st (uI σ 7 v)) : VV X Λ nL pc lv (.int v :: .ref (adr Λ 4) :: st) σ := v_put C inG8 tyX8 tyX8_ok nmX8 4 (wd4 Λ σ) rfl 4 (by decide) rfl hw rfl (ty := .boolean) (by decide +kernel) (by rcases hv with rfl | rfl <;> decide +kernel) (by rcases hv with rfl | rfl <;> decide +kernel) (by decide : 4 < 5) (ws4_4 Λ σ v) hd hp k
theorem vg_X1_latest (C : OK X Λ cc nL own fr lo) {idx : Nat} (hw : Cond.fieldLink own idx RX1 "latest" "[J" ∈ wsG) (hd : decode cc pc = .ok (.getfield idx, 3)) (hp : pc2 = pc + 3) (k : VV X Λ nL pc2 lv (.ref (adr Λ 20) :: st) σ) : VV X Λ nL pc lv (.ref (adr Λ 5) :: st) σ := v_get C inG1 5 (wd5 Λ σ) rfl 0 (by decide) rfl hw rfl hd hp k
theorem vg_X1_sums (C : OK X Λ cc nL own fr lo) {idx : Nat} (hw : Cond.fieldLink own idx RX1 "sums" "[J" ∈ wsG) (hd : decode cc pc = .ok (.getfield idx, 3)) (hp : pc2 = pc + 3) (k : VV X Λ nL pc2 lv (.ref (adr Λ 21) :: st) σ) : VV X Λ nL pc lv (.ref (adr Λ 5) :: st) σ := v_get C inG1 5 (wd5 Λ σ) rfl 1 (by decide) rfl hw rfl hd hp k
theorem vg_X1_isBegun (C : OK X Λ cc nL own fr lo) {idx : Nat} (hw : Cond.fieldLink own idx RX1 "isBegun" "Z" ∈ wsG) (hd : decode cc pc = .ok (.getfield idx, 3)) (hp : pc2 = pc + 3) (k : VV X Λ nL pc2 lv (.int (gI σ 8) :: st) σ) : VV X Λ nL pc lv (.ref (adr Λ 5) :: st) σ := v_get C inG1 5 (wd5 Λ σ) rfl 2 (by decide) rfl hw rfl hd hp k
theorem vp_X1_isBegun (C : OK X Λ cc nL own fr lo) {idx : Nat} {v : Int32} (hv : v = 0 ∨ v = 1) (hw : Cond.fieldLink own idx RX1 "isBegun" "Z" ∈ wsG) (hd : decode cc pc = .ok (.putfield idx, 3)) (hp : pc2 = pc + 3) (k : VV X Λ nL pc2 lv st (uI σ 8 v)) : VV X Λ nL pc lv (.int v :: .ref (adr Λ 5) :: st) σ := v_put C inG1 tyX1 tyX1_ok nmX1 5 (wd5 Λ σ) rfl 2 (by decide) rfl hw rfl (ty := .boolean) (by decide +kernel) (by rcases hv with rfl | rfl <;> decide +kernel) (by rcases hv with rfl | rfl <;> decide +kernel) (by decide : 2 < 5) (ws5_2 Λ σ v) hd hp k
theorem vg_X1_state (C : OK X Λ cc nL own fr lo) {idx : Nat} (hw : Cond.fieldLink own idx RX1 "state" "I" ∈ wsG) (hd : decode cc pc = .ok (.getfield idx, 3)) (hp : pc2 = pc + 3) (k : VV X Λ nL pc2 lv (.int (gI σ 9) :: st) σ) : VV X Λ nL pc lv (.ref (adr Λ 5) :: st) σ := v_get C inG1 5 (wd5 Λ σ) rfl 3 (by decide) rfl hw rfl hd hp k
theorem vp_X1_state (C : OK X Λ cc nL own fr lo) {idx : Nat} {v : Int32} (hw : Cond.fieldLink own idx RX1 "state" "I" ∈ wsG) (hd : decode cc pc = .ok (.putfield idx, 3)) (hp : pc2 = pc + 3) (k : VV X Λ nL pc2 lv st (uI σ 9 v)) : VV X Λ nL pc lv (.int v :: .ref (adr Λ 5) :: st) σ := v_put C inG1 tyX1 tyX1_ok nmX1 5 (wd5 Λ σ) rfl 3 (by decide) rfl hw rfl (ty := .int) (by decide +kernel) rfl rfl (by decide : 3 < 5) (ws5_3 Λ σ v) hd hp k
theorem vg_X1_whichHour (C : OK X Λ cc nL own fr lo) {idx : Nat} (hw : Cond.fieldLink own idx RX1 "whichHour" "I" ∈ wsG) (hd : decode cc pc = .ok (.getfield idx, 3)) (hp : pc2 = pc + 3) (k : VV X Λ nL pc2 lv (.int (gI σ 10) :: st) σ) : VV X Λ nL pc lv (.ref (adr Λ 5) :: st) σ := v_get C inG1 5 (wd5 Λ σ) rfl 4 (by decide) rfl hw rfl hd hp k
theorem vp_X1_whichHour (C : OK X Λ cc nL own fr lo) {idx : Nat} {v : Int32} (hw : Cond.fieldLink own idx RX1 "whichHour" "I" ∈ wsG) (hd : decode cc pc = .ok (.putfield idx, 3)) (hp : pc2 = pc + 3) (k : VV X Λ nL pc2 lv st (uI σ 10 v)) : VV X Λ nL pc lv (.int v :: .ref (adr Λ 5) :: st) σ := v_put C inG1 tyX1 tyX1_ok nmX1 5 (wd5 Λ σ) rfl 4 (by decide) rfl hw rfl (ty := .int) (by decide +kernel) rfl rfl (by decide : 4 < 5) (ws5_4 Λ σ v) hd hp k
theorem vg_X7_bestSet (C : OK X Λ cc nL own fr lo) {idx : Nat} (hw : Cond.fieldLink own idx RX7 "bestSet" "I" ∈ wsG) (hd : decode cc pc = .ok (.getfield idx, 3)) (hp : pc2 = pc + 3) (k : VV X Λ nL pc2 lv (.int (gI σ 11) :: st) σ) : VV X Λ nL pc lv (.ref (adr Λ 6) :: st) σ := v_get C inG7 6 (wd6 Λ σ) rfl 0 (by decide) rfl hw rfl hd hp k
theorem vp_X7_bestSet (C : OK X Λ cc nL own fr lo) {idx : Nat} {v : Int32} (hw : Cond.fieldLink own idx RX7 "bestSet" "I" ∈ wsG) (hd : decode cc pc = .ok (.putfield idx, 3)) (hp : pc2 = pc + 3) (k : VV X Λ nL pc2 lv st (uI σ 11 v)) : VV X Λ nL pc lv (.int v :: .ref (adr Λ 6) :: st) σ := v_put C inG7 tyX7 tyX7_ok nmX7 6 (wd6 Λ σ) rfl 0 (by decide) rfl hw rfl (ty := .int) (by decide +kernel) rfl rfl (by decide : 0 < 2) (ws6_0 Λ σ v) hd hp k
theorem vg_X7_bestValue (C : OK X Λ cc nL own fr lo) {idx : Nat} (hw : Cond.fieldLink own idx RX7 "bestValue" "J" ∈ wsG) (hd : decode cc pc = .ok (.getfield idx, 3)) (hp : pc2 = pc + 3) (k : VV X Λ nL pc2 lv (.long (gJ σ 0) :: st) σ) : VV X Λ nL pc lv (.ref (adr Λ 6) :: st) σ := v_get C inG7 6 (wd6 Λ σ) rfl 1 (by decide) rfl hw rfl hd hp k
theorem vp_X7_bestValue (C : OK X Λ cc nL own fr lo) {idx : Nat} {v : Int64} (hw : Cond.fieldLink own idx RX7 "bestValue" "J" ∈ wsG) (hd : decode cc pc = .ok (.putfield idx, 3)) (hp : pc2 = pc + 3) (k : VV X Λ nL pc2 lv st (uJ σ 0 v)) : VV X Λ nL pc lv (.long v :: .ref (adr Λ 6) :: st) σ := v_put C inG7 tyX7 tyX7_ok nmX7 6 (wd6 Λ σ) rfl 1 (by decide) rfl hw rfl (ty := .long) (by decide +kernel) rfl rfl (by decide : 1 < 2) (ws6_1 Λ σ v) hd hp k
theorem vg_X6_numbers (C : OK X Λ cc nL own fr lo) {idx : Nat} (hw : Cond.fieldLink own idx RX6 "numbers" "[I" ∈ wsG) (hd : decode cc pc = .ok (.getfield idx, 3)) (hp : pc2 = pc + 3) (k : VV X Λ nL pc2 lv (.ref (adr Λ 22) :: st) σ) : VV X Λ nL pc lv (.ref (adr Λ 7) :: st) σ := v_get C inG6 7 (wd7 Λ σ) rfl 0 (by decide) rfl hw rfl hd hp k
theorem vg_X6_size (C : OK X Λ cc nL own fr lo) {idx : Nat} (hw : Cond.fieldLink own idx RX6 "size" "I" ∈ wsG) (hd : decode cc pc = .ok (.getfield idx, 3)) (hp : pc2 = pc + 3) (k : VV X Λ nL pc2 lv (.int (gI σ 12) :: st) σ) : VV X Λ nL pc lv (.ref (adr Λ 7) :: st) σ := v_get C inG6 7 (wd7 Λ σ) rfl 1 (by decide) rfl hw rfl hd hp k
theorem vp_X6_size (C : OK X Λ cc nL own fr lo) {idx : Nat} {v : Int32} (hw : Cond.fieldLink own idx RX6 "size" "I" ∈ wsG) (hd : decode cc pc = .ok (.putfield idx, 3)) (hp : pc2 = pc + 3) (k : VV X Λ nL pc2 lv st (uI σ 12 v)) : VV X Λ nL pc lv (.int v :: .ref (adr Λ 7) :: st) σ := v_put C inG6 tyX6 tyX6_ok nmX6 7 (wd7 Λ σ) rfl 1 (by decide) rfl hw rfl (ty := .int) (by decide +kernel) rfl rfl (by decide : 1 < 2) (ws7_1 Λ σ v) hd hp k
theorem vg_X2_start (C : OK X Λ cc nL own fr lo) {idx : Nat} (hw : Cond.fieldLink own idx RX2 "start" "[J" ∈ wsG) (hd : decode cc pc = .ok (.getfield idx, 3)) (hp : pc2 = pc + 3) (k : VV X Λ nL pc2 lv (.ref (adr Λ 23) :: st) σ) : VV X Λ nL pc lv (.ref (adr Λ 10) :: st) σ := v_get C inG2 10 (wd10 Λ σ) rfl 0 (by decide) rfl hw rfl hd hp k
theorem vg_X2_end (C : OK X Λ cc nL own fr lo) {idx : Nat} (hw : Cond.fieldLink own idx RX2 "end" "[J" ∈ wsG) (hd : decode cc pc = .ok (.getfield idx, 3)) (hp : pc2 = pc + 3) (k : VV X Λ nL pc2 lv (.ref (adr Λ 24) :: st) σ) : VV X Λ nL pc lv (.ref (adr Λ 10) :: st) σ := v_get C inG2 10 (wd10 Λ σ) rfl 1 (by decide) rfl hw rfl hd hp k
theorem vg_X2_from (C : OK X Λ cc nL own fr lo) {idx : Nat} (hw : Cond.fieldLink own idx RX2 "from" "[J" ∈ wsG) (hd : decode cc pc = .ok (.getfield idx, 3)) (hp : pc2 = pc + 3) (k : VV X Λ nL pc2 lv (.ref (adr Λ 25) :: st) σ) : VV X Λ nL pc lv (.ref (adr Λ 10) :: st) σ := v_get C inG2 10 (wd10 Λ σ) rfl 2 (by decide) rfl hw rfl hd hp k
theorem vg_X2_to (C : OK X Λ cc nL own fr lo) {idx : Nat} (hw : Cond.fieldLink own idx RX2 "to" "[J" ∈ wsG) (hd : decode cc pc = .ok (.getfield idx, 3)) (hp : pc2 = pc + 3) (k : VV X Λ nL pc2 lv (.ref (adr Λ 26) :: st) σ) : VV X Λ nL pc lv (.ref (adr Λ 10) :: st) σ := v_get C inG2 10 (wd10 Λ σ) rfl 3 (by decide) rfl hw rfl hd hp k
theorem vg_X2_pieces (C : OK X Λ cc nL own fr lo) {idx : Nat} (hw : Cond.fieldLink own idx RX2 "pieces" "I" ∈ wsG) (hd : decode cc pc = .ok (.getfield idx, 3)) (hp : pc2 = pc + 3) (k : VV X Λ nL pc2 lv (.int (gI σ 13) :: st) σ) : VV X Λ nL pc lv (.ref (adr Λ 10) :: st) σ := v_get C inG2 10 (wd10 Λ σ) rfl 4 (by decide) rfl hw rfl hd hp k
theorem vp_X2_pieces (C : OK X Λ cc nL own fr lo) {idx : Nat} {v : Int32} (hw : Cond.fieldLink own idx RX2 "pieces" "I" ∈ wsG) (hd : decode cc pc = .ok (.putfield idx, 3)) (hp : pc2 = pc + 3) (k : VV X Λ nL pc2 lv st (uI σ 13 v)) : VV X Λ nL pc lv (.int v :: .ref (adr Λ 10) :: st) σ := v_put C inG2 tyX2 tyX2_ok nmX2 10 (wd10 Λ σ) rfl 4 (by decide) rfl hw rfl (ty := .int) (by decide +kernel) rfl rfl (by decide : 4 < 5) (ws10_4 Λ σ v) hd hp k
theorem vg_X10_rows (C : OK X Λ cc nL own fr lo) {idx : Nat} (hw : Cond.fieldLink own idx RX10 "rows" "I" ∈ wsG) (hd : decode cc pc = .ok (.getfield idx, 3)) (hp : pc2 = pc + 3) (k : VV X Λ nL pc2 lv (.int (gI σ 20) :: st) σ) : VV X Λ nL pc lv (.ref (adr Λ 37) :: st) σ := v_get C inG10 37 (wd37 Λ σ) rfl 0 (by decide) rfl hw rfl hd hp k
theorem vp_X10_rows (C : OK X Λ cc nL own fr lo) {idx : Nat} {v : Int32} (hw : Cond.fieldLink own idx RX10 "rows" "I" ∈ wsG) (hd : decode cc pc = .ok (.putfield idx, 3)) (hp : pc2 = pc + 3) (k : VV X Λ nL pc2 lv st (uI σ 20 v)) : VV X Λ nL pc lv (.int v :: .ref (adr Λ 37) :: st) σ := v_put C inG10 tyX10 tyX10_ok nmX10 37 (wd37 Λ σ) rfl 0 (by decide) rfl hw rfl (ty := .int) (by decide +kernel) rfl rfl (by decide : 0 < 28) (ws37_0 Λ σ v) hd hp k
theorem vg_X10_kindOf (C : OK X Λ cc nL own fr lo) {idx : Nat} (hw : Cond.fieldLink own idx RX10 "kindOf" "[I" ∈ wsG) (hd : decode cc pc = .ok (.getfield idx, 3)) (hp : pc2 = pc + 3) (k : VV X Λ nL pc2 lv (.ref (adr Λ 38) :: st) σ) : VV X Λ nL pc lv (.ref (adr Λ 37) :: st) σ := v_get C inG10 37 (wd37 Λ σ) rfl 1 (by decide) rfl hw rfl hd hp k
theorem vg_X10_placeOf (C : OK X Λ cc nL own fr lo) {idx : Nat} (hw : Cond.fieldLink own idx RX10 "placeOf" "[I" ∈ wsG) (hd : decode cc pc = .ok (.getfield idx, 3)) (hp : pc2 = pc + 3) (k : VV X Λ nL pc2 lv (.ref (adr Λ 39) :: st) σ) : VV X Λ nL pc lv (.ref (adr Λ 37) :: st) σ := v_get C inG10 37 (wd37 Λ σ) rfl 2 (by decide) rfl hw rfl hd hp k
theorem vg_X10_heightOf (C : OK X Λ cc nL own fr lo) {idx : Nat} (hw : Cond.fieldLink own idx RX10 "heightOf" "[I" ∈ wsG) (hd : decode cc pc = .ok (.getfield idx, 3)) (hp : pc2 = pc + 3) (k : VV X Λ nL pc2 lv (.ref (adr Λ 40) :: st) σ) : VV X Λ nL pc lv (.ref (adr Λ 37) :: st) σ := v_get C inG10 37 (wd37 Λ σ) rfl 3 (by decide) rfl hw rfl hd hp k
theorem vg_X10_widthOf (C : OK X Λ cc nL own fr lo) {idx : Nat} (hw : Cond.fieldLink own idx RX10 "widthOf" "[I" ∈ wsG) (hd : decode cc pc = .ok (.getfield idx, 3)) (hp : pc2 = pc + 3) (k : VV X Λ nL pc2 lv (.ref (adr Λ 41) :: st) σ) : VV X Λ nL pc lv (.ref (adr Λ 37) :: st) σ := v_get C inG10 37 (wd37 Λ σ) rfl 4 (by decide) rfl hw rfl hd hp k
theorem vg_X10_dustOf (C : OK X Λ cc nL own fr lo) {idx : Nat} (hw : Cond.fieldLink own idx RX10 "dustOf" "[I" ∈ wsG) (hd : decode cc pc = .ok (.getfield idx, 3)) (hp : pc2 = pc + 3) (k : VV X Λ nL pc2 lv (.ref (adr Λ 42) :: st) σ) : VV X Λ nL pc lv (.ref (adr Λ 37) :: st) σ := v_get C inG10 37 (wd37 Λ σ) rfl 5 (by decide) rfl hw rfl hd hp k
theorem vg_X10_stepOf (C : OK X Λ cc nL own fr lo) {idx : Nat} (hw : Cond.fieldLink own idx RX10 "stepOf" "[I" ∈ wsG) (hd : decode cc pc = .ok (.getfield idx, 3)) (hp : pc2 = pc + 3) (k : VV X Λ nL pc2 lv (.ref (adr Λ 43) :: st) σ) : VV X Λ nL pc lv (.ref (adr Λ 37) :: st) σ := v_get C inG10 37 (wd37 Λ σ) rfl 6 (by decide) rfl hw rfl hd hp k
theorem vg_X10_stringOf (C : OK X Λ cc nL own fr lo) {idx : Nat} (hw : Cond.fieldLink own idx RX10 "stringOf" "[I" ∈ wsG) (hd : decode cc pc = .ok (.getfield idx, 3)) (hp : pc2 = pc + 3) (k : VV X Λ nL pc2 lv (.ref (adr Λ 44) :: st) σ) : VV X Λ nL pc lv (.ref (adr Λ 37) :: st) σ := v_get C inG10 37 (wd37 Λ σ) rfl 7 (by decide) rfl hw rfl hd hp k
theorem vg_X10_sunX (C : OK X Λ cc nL own fr lo) {idx : Nat} (hw : Cond.fieldLink own idx RX10 "sunX" "[I" ∈ wsG) (hd : decode cc pc = .ok (.getfield idx, 3)) (hp : pc2 = pc + 3) (k : VV X Λ nL pc2 lv (.ref (adr Λ 45) :: st) σ) : VV X Λ nL pc lv (.ref (adr Λ 37) :: st) σ := v_get C inG10 37 (wd37 Λ σ) rfl 8 (by decide) rfl hw rfl hd hp k
theorem vg_X10_sunY (C : OK X Λ cc nL own fr lo) {idx : Nat} (hw : Cond.fieldLink own idx RX10 "sunY" "[I" ∈ wsG) (hd : decode cc pc = .ok (.getfield idx, 3)) (hp : pc2 = pc + 3) (k : VV X Λ nL pc2 lv (.ref (adr Λ 46) :: st) σ) : VV X Λ nL pc lv (.ref (adr Λ 37) :: st) σ := v_get C inG10 37 (wd37 Λ σ) rfl 9 (by decide) rfl hw rfl hd hp k
theorem vg_X10_windOf (C : OK X Λ cc nL own fr lo) {idx : Nat} (hw : Cond.fieldLink own idx RX10 "windOf" "[I" ∈ wsG) (hd : decode cc pc = .ok (.getfield idx, 3)) (hp : pc2 = pc + 3) (k : VV X Λ nL pc2 lv (.ref (adr Λ 47) :: st) σ) : VV X Λ nL pc lv (.ref (adr Λ 37) :: st) σ := v_get C inG10 37 (wd37 Λ σ) rfl 10 (by decide) rfl hw rfl hd hp k
theorem vg_X10_cleans (C : OK X Λ cc nL own fr lo) {idx : Nat} (hw : Cond.fieldLink own idx RX10 "cleans" "[Z" ∈ wsG) (hd : decode cc pc = .ok (.getfield idx, 3)) (hp : pc2 = pc + 3) (k : VV X Λ nL pc2 lv (.ref (adr Λ 48) :: st) σ) : VV X Λ nL pc lv (.ref (adr Λ 37) :: st) σ := v_get C inG10 37 (wd37 Λ σ) rfl 11 (by decide) rfl hw rfl hd hp k
theorem vg_X10_ceilings (C : OK X Λ cc nL own fr lo) {idx : Nat} (hw : Cond.fieldLink own idx RX10 "ceilings" "[I" ∈ wsG) (hd : decode cc pc = .ok (.getfield idx, 3)) (hp : pc2 = pc + 3) (k : VV X Λ nL pc2 lv (.ref (adr Λ 49) :: st) σ) : VV X Λ nL pc lv (.ref (adr Λ 37) :: st) σ := v_get C inG10 37 (wd37 Λ σ) rfl 12 (by decide) rfl hw rfl hd hp k
theorem vg_X10_limit (C : OK X Λ cc nL own fr lo) {idx : Nat} (hw : Cond.fieldLink own idx RX10 "limit" "I" ∈ wsG) (hd : decode cc pc = .ok (.getfield idx, 3)) (hp : pc2 = pc + 3) (k : VV X Λ nL pc2 lv (.int (gI σ 21) :: st) σ) : VV X Λ nL pc lv (.ref (adr Λ 37) :: st) σ := v_get C inG10 37 (wd37 Λ σ) rfl 13 (by decide) rfl hw rfl hd hp k
theorem vp_X10_limit (C : OK X Λ cc nL own fr lo) {idx : Nat} {v : Int32} (hw : Cond.fieldLink own idx RX10 "limit" "I" ∈ wsG) (hd : decode cc pc = .ok (.putfield idx, 3)) (hp : pc2 = pc + 3) (k : VV X Λ nL pc2 lv st (uI σ 21 v)) : VV X Λ nL pc lv (.int v :: .ref (adr Λ 37) :: st) σ := v_put C inG10 tyX10 tyX10_ok nmX10 37 (wd37 Λ σ) rfl 13 (by decide) rfl hw rfl (ty := .int) (by decide +kernel) rfl rfl (by decide : 13 < 28) (ws37_13 Λ σ v) hd hp k
theorem vg_X10_nextHour (C : OK X Λ cc nL own fr lo) {idx : Nat} (hw : Cond.fieldLink own idx RX10 "nextHour" "I" ∈ wsG) (hd : decode cc pc = .ok (.getfield idx, 3)) (hp : pc2 = pc + 3) (k : VV X Λ nL pc2 lv (.int (gI σ 22) :: st) σ) : VV X Λ nL pc lv (.ref (adr Λ 37) :: st) σ := v_get C inG10 37 (wd37 Λ σ) rfl 14 (by decide) rfl hw rfl hd hp k
theorem vp_X10_nextHour (C : OK X Λ cc nL own fr lo) {idx : Nat} {v : Int32} (hw : Cond.fieldLink own idx RX10 "nextHour" "I" ∈ wsG) (hd : decode cc pc = .ok (.putfield idx, 3)) (hp : pc2 = pc + 3) (k : VV X Λ nL pc2 lv st (uI σ 22 v)) : VV X Λ nL pc lv (.int v :: .ref (adr Λ 37) :: st) σ := v_put C inG10 tyX10 tyX10_ok nmX10 37 (wd37 Λ σ) rfl 14 (by decide) rfl hw rfl (ty := .int) (by decide +kernel) rfl rfl (by decide : 14 < 28) (ws37_14 Λ σ v) hd hp k
theorem vg_X10_state (C : OK X Λ cc nL own fr lo) {idx : Nat} (hw : Cond.fieldLink own idx RX10 "state" "I" ∈ wsG) (hd : decode cc pc = .ok (.getfield idx, 3)) (hp : pc2 = pc + 3) (k : VV X Λ nL pc2 lv (.int (gI σ 23) :: st) σ) : VV X Λ nL pc lv (.ref (adr Λ 37) :: st) σ := v_get C inG10 37 (wd37 Λ σ) rfl 15 (by decide) rfl hw rfl hd hp k
theorem vp_X10_state (C : OK X Λ cc nL own fr lo) {idx : Nat} {v : Int32} (hw : Cond.fieldLink own idx RX10 "state" "I" ∈ wsG) (hd : decode cc pc = .ok (.putfield idx, 3)) (hp : pc2 = pc + 3) (k : VV X Λ nL pc2 lv st (uI σ 23 v)) : VV X Λ nL pc lv (.int v :: .ref (adr Λ 37) :: st) σ := v_put C inG10 tyX10 tyX10_ok nmX10 37 (wd37 Λ σ) rfl 15 (by decide) rfl hw rfl (ty := .int) (by decide +kernel) rfl rfl (by decide : 15 < 28) (ws37_15 Λ σ v) hd hp k
theorem vg_X10_lostRow (C : OK X Λ cc nL own fr lo) {idx : Nat} (hw : Cond.fieldLink own idx RX10 "lostRow" "I" ∈ wsG) (hd : decode cc pc = .ok (.getfield idx, 3)) (hp : pc2 = pc + 3) (k : VV X Λ nL pc2 lv (.int (gI σ 24) :: st) σ) : VV X Λ nL pc lv (.ref (adr Λ 37) :: st) σ := v_get C inG10 37 (wd37 Λ σ) rfl 16 (by decide) rfl hw rfl hd hp k
theorem vp_X10_lostRow (C : OK X Λ cc nL own fr lo) {idx : Nat} {v : Int32} (hw : Cond.fieldLink own idx RX10 "lostRow" "I" ∈ wsG) (hd : decode cc pc = .ok (.putfield idx, 3)) (hp : pc2 = pc + 3) (k : VV X Λ nL pc2 lv st (uI σ 24 v)) : VV X Λ nL pc lv (.int v :: .ref (adr Λ 37) :: st) σ := v_put C inG10 tyX10 tyX10_ok nmX10 37 (wd37 Λ σ) rfl 16 (by decide) rfl hw rfl (ty := .int) (by decide +kernel) rfl rfl (by decide : 16 < 28) (ws37_16 Λ σ v) hd hp k
theorem vg_X10_went (C : OK X Λ cc nL own fr lo) {idx : Nat} (hw : Cond.fieldLink own idx RX10 "went" "Z" ∈ wsG) (hd : decode cc pc = .ok (.getfield idx, 3)) (hp : pc2 = pc + 3) (k : VV X Λ nL pc2 lv (.int (gI σ 25) :: st) σ) : VV X Λ nL pc lv (.ref (adr Λ 37) :: st) σ := v_get C inG10 37 (wd37 Λ σ) rfl 17 (by decide) rfl hw rfl hd hp k
theorem vp_X10_went (C : OK X Λ cc nL own fr lo) {idx : Nat} {v : Int32} (hv : v = 0 ∨ v = 1) (hw : Cond.fieldLink own idx RX10 "went" "Z" ∈ wsG) (hd : decode cc pc = .ok (.putfield idx, 3)) (hp : pc2 = pc + 3) (k : VV X Λ nL pc2 lv st (uI σ 25 v)) : VV X Λ nL pc lv (.int v :: .ref (adr Λ 37) :: st) σ := v_put C inG10 tyX10 tyX10_ok nmX10 37 (wd37 Λ σ) rfl 17 (by decide) rfl hw rfl (ty := .boolean) (by decide +kernel) (by rcases hv with rfl | rfl <;> decide +kernel) (by rcases hv with rfl | rfl <;> decide +kernel) (by decide : 17 < 28) (ws37_17 Λ σ v) hd hp k
theorem vg_X10_lastStep (C : OK X Λ cc nL own fr lo) {idx : Nat} (hw : Cond.fieldLink own idx RX10 "lastStep" "I" ∈ wsG) (hd : decode cc pc = .ok (.getfield idx, 3)) (hp : pc2 = pc + 3) (k : VV X Λ nL pc2 lv (.int (gI σ 26) :: st) σ) : VV X Λ nL pc lv (.ref (adr Λ 37) :: st) σ := v_get C inG10 37 (wd37 Λ σ) rfl 18 (by decide) rfl hw rfl hd hp k
theorem vp_X10_lastStep (C : OK X Λ cc nL own fr lo) {idx : Nat} {v : Int32} (hw : Cond.fieldLink own idx RX10 "lastStep" "I" ∈ wsG) (hd : decode cc pc = .ok (.putfield idx, 3)) (hp : pc2 = pc + 3) (k : VV X Λ nL pc2 lv st (uI σ 26 v)) : VV X Λ nL pc lv (.int v :: .ref (adr Λ 37) :: st) σ := v_put C inG10 tyX10 tyX10_ok nmX10 37 (wd37 Λ σ) rfl 18 (by decide) rfl hw rfl (ty := .int) (by decide +kernel) rfl rfl (by decide : 18 < 28) (ws37_18 Λ σ v) hd hp k
theorem vg_X10_lastState (C : OK X Λ cc nL own fr lo) {idx : Nat} (hw : Cond.fieldLink own idx RX10 "lastState" "I" ∈ wsG) (hd : decode cc pc = .ok (.getfield idx, 3)) (hp : pc2 = pc + 3) (k : VV X Λ nL pc2 lv (.int (gI σ 27) :: st) σ) : VV X Λ nL pc lv (.ref (adr Λ 37) :: st) σ := v_get C inG10 37 (wd37 Λ σ) rfl 19 (by decide) rfl hw rfl hd hp k
theorem vp_X10_lastState (C : OK X Λ cc nL own fr lo) {idx : Nat} {v : Int32} (hw : Cond.fieldLink own idx RX10 "lastState" "I" ∈ wsG) (hd : decode cc pc = .ok (.putfield idx, 3)) (hp : pc2 = pc + 3) (k : VV X Λ nL pc2 lv st (uI σ 27 v)) : VV X Λ nL pc lv (.int v :: .ref (adr Λ 37) :: st) σ := v_put C inG10 tyX10 tyX10_ok nmX10 37 (wd37 Λ σ) rfl 19 (by decide) rfl hw rfl (ty := .int) (by decide +kernel) rfl rfl (by decide : 19 < 28) (ws37_19 Λ σ v) hd hp k
theorem vg_X10_book (C : OK X Λ cc nL own fr lo) {idx : Nat} (hw : Cond.fieldLink own idx RX10 "book" "[J" ∈ wsG) (hd : decode cc pc = .ok (.getfield idx, 3)) (hp : pc2 = pc + 3) (k : VV X Λ nL pc2 lv (.ref (adr Λ 50) :: st) σ) : VV X Λ nL pc lv (.ref (adr Λ 37) :: st) σ := v_get C inG10 37 (wd37 Λ σ) rfl 20 (by decide) rfl hw rfl hd hp k
theorem vg_X10_all (C : OK X Λ cc nL own fr lo) {idx : Nat} (hw : Cond.fieldLink own idx RX10 "all" "[J" ∈ wsG) (hd : decode cc pc = .ok (.getfield idx, 3)) (hp : pc2 = pc + 3) (k : VV X Λ nL pc2 lv (.ref (adr Λ 51) :: st) σ) : VV X Λ nL pc lv (.ref (adr Λ 37) :: st) σ := v_get C inG10 37 (wd37 Λ σ) rfl 21 (by decide) rfl hw rfl hd hp k
theorem vg_X10_taped (C : OK X Λ cc nL own fr lo) {idx : Nat} (hw : Cond.fieldLink own idx RX10 "taped" "I" ∈ wsG) (hd : decode cc pc = .ok (.getfield idx, 3)) (hp : pc2 = pc + 3) (k : VV X Λ nL pc2 lv (.int (gI σ 28) :: st) σ) : VV X Λ nL pc lv (.ref (adr Λ 37) :: st) σ := v_get C inG10 37 (wd37 Λ σ) rfl 22 (by decide) rfl hw rfl hd hp k
theorem vp_X10_taped (C : OK X Λ cc nL own fr lo) {idx : Nat} {v : Int32} (hw : Cond.fieldLink own idx RX10 "taped" "I" ∈ wsG) (hd : decode cc pc = .ok (.putfield idx, 3)) (hp : pc2 = pc + 3) (k : VV X Λ nL pc2 lv st (uI σ 28 v)) : VV X Λ nL pc lv (.int v :: .ref (adr Λ 37) :: st) σ := v_put C inG10 tyX10 tyX10_ok nmX10 37 (wd37 Λ σ) rfl 22 (by decide) rfl hw rfl (ty := .int) (by decide +kernel) rfl rfl (by decide : 22 < 28) (ws37_22 Λ σ v) hd hp k
theorem vg_X10_tape (C : OK X Λ cc nL own fr lo) {idx : Nat} (hw : Cond.fieldLink own idx RX10 "tape" "[I" ∈ wsG) (hd : decode cc pc = .ok (.getfield idx, 3)) (hp : pc2 = pc + 3) (k : VV X Λ nL pc2 lv (.ref (adr Λ 52) :: st) σ) : VV X Λ nL pc lv (.ref (adr Λ 37) :: st) σ := v_get C inG10 37 (wd37 Λ σ) rfl 23 (by decide) rfl hw rfl hd hp k
theorem vg_X10_findings (C : OK X Λ cc nL own fr lo) {idx : Nat} (hw : Cond.fieldLink own idx RX10 "findings" "[I" ∈ wsG) (hd : decode cc pc = .ok (.getfield idx, 3)) (hp : pc2 = pc + 3) (k : VV X Λ nL pc2 lv (.ref (adr Λ 53) :: st) σ) : VV X Λ nL pc lv (.ref (adr Λ 37) :: st) σ := v_get C inG10 37 (wd37 Λ σ) rfl 24 (by decide) rfl hw rfl hd hp k
theorem vg_X10_tried (C : OK X Λ cc nL own fr lo) {idx : Nat} (hw : Cond.fieldLink own idx RX10 "tried" "I" ∈ wsG) (hd : decode cc pc = .ok (.getfield idx, 3)) (hp : pc2 = pc + 3) (k : VV X Λ nL pc2 lv (.int (gI σ 29) :: st) σ) : VV X Λ nL pc lv (.ref (adr Λ 37) :: st) σ := v_get C inG10 37 (wd37 Λ σ) rfl 25 (by decide) rfl hw rfl hd hp k
theorem vp_X10_tried (C : OK X Λ cc nL own fr lo) {idx : Nat} {v : Int32} (hw : Cond.fieldLink own idx RX10 "tried" "I" ∈ wsG) (hd : decode cc pc = .ok (.putfield idx, 3)) (hp : pc2 = pc + 3) (k : VV X Λ nL pc2 lv st (uI σ 29 v)) : VV X Λ nL pc lv (.int v :: .ref (adr Λ 37) :: st) σ := v_put C inG10 tyX10 tyX10_ok nmX10 37 (wd37 Λ σ) rfl 25 (by decide) rfl hw rfl (ty := .int) (by decide +kernel) rfl rfl (by decide : 25 < 28) (ws37_25 Λ σ v) hd hp k
theorem vg_X10_currents (C : OK X Λ cc nL own fr lo) {idx : Nat} (hw : Cond.fieldLink own idx RX10 "currents" "[J" ∈ wsG) (hd : decode cc pc = .ok (.getfield idx, 3)) (hp : pc2 = pc + 3) (k : VV X Λ nL pc2 lv (.ref (adr Λ 54) :: st) σ) : VV X Λ nL pc lv (.ref (adr Λ 37) :: st) σ := v_get C inG10 37 (wd37 Λ σ) rfl 26 (by decide) rfl hw rfl hd hp k
theorem vg_X10_bestSet (C : OK X Λ cc nL own fr lo) {idx : Nat} (hw : Cond.fieldLink own idx RX10 "bestSet" "I" ∈ wsG) (hd : decode cc pc = .ok (.getfield idx, 3)) (hp : pc2 = pc + 3) (k : VV X Λ nL pc2 lv (.int (gI σ 30) :: st) σ) : VV X Λ nL pc lv (.ref (adr Λ 37) :: st) σ := v_get C inG10 37 (wd37 Λ σ) rfl 27 (by decide) rfl hw rfl hd hp k
theorem vp_X10_bestSet (C : OK X Λ cc nL own fr lo) {idx : Nat} {v : Int32} (hw : Cond.fieldLink own idx RX10 "bestSet" "I" ∈ wsG) (hd : decode cc pc = .ok (.putfield idx, 3)) (hp : pc2 = pc + 3) (k : VV X Λ nL pc2 lv st (uI σ 30 v)) : VV X Λ nL pc lv (.int v :: .ref (adr Λ 37) :: st) σ := v_put C inG10 tyX10 tyX10_ok nmX10 37 (wd37 Λ σ) rfl 27 (by decide) rfl hw rfl (ty := .int) (by decide +kernel) rfl rfl (by decide : 27 < 28) (ws37_27 Λ σ v) hd hp k
theorem vg_X3_kind (C : OK X Λ cc nL own fr lo) {idx i : Nat} (hi : i < 10) (hw : Cond.fieldLink own idx RX3 "kind" "I" ∈ wsG) (hd : decode cc pc = .ok (.getfield idx, 3)) (hp : pc2 = pc + 3) (k : VV X Λ nL pc2 lv (.int (gA σ 10 i) :: st) σ) : VV X Λ nL pc lv (.ref (adr Λ (27 + i)) :: st) σ := v_get C inG3 (27 + i) (wdR Λ σ i hi) rfl 0 (by decide) rfl hw rfl hd hp k
theorem vp_X3_kind (C : OK X Λ cc nL own fr lo) {idx i : Nat} {v : Int32} (hi : i < 10) (hw : Cond.fieldLink own idx RX3 "kind" "I" ∈ wsG) (hd : decode cc pc = .ok (.putfield idx, 3)) (hp : pc2 = pc + 3) (k : VV X Λ nL pc2 lv st (uA σ 10 i v)) : VV X Λ nL pc lv (.int v :: .ref (adr Λ (27 + i)) :: st) σ := v_put C inG3 tyX3 tyX3_ok nmX3 (27 + i) (wdR Λ σ i hi) rfl 0 (by decide) rfl hw rfl (ty := .int) (by decide +kernel) rfl rfl (by decide : 0 < 7) (wsR_0 Λ σ v i hi) hd hp k
theorem vg_X3_place (C : OK X Λ cc nL own fr lo) {idx i : Nat} (hi : i < 10) (hw : Cond.fieldLink own idx RX3 "place" "I" ∈ wsG) (hd : decode cc pc = .ok (.getfield idx, 3)) (hp : pc2 = pc + 3) (k : VV X Λ nL pc2 lv (.int (gA σ 11 i) :: st) σ) : VV X Λ nL pc lv (.ref (adr Λ (27 + i)) :: st) σ := v_get C inG3 (27 + i) (wdR Λ σ i hi) rfl 1 (by decide) rfl hw rfl hd hp k
theorem vp_X3_place (C : OK X Λ cc nL own fr lo) {idx i : Nat} {v : Int32} (hi : i < 10) (hw : Cond.fieldLink own idx RX3 "place" "I" ∈ wsG) (hd : decode cc pc = .ok (.putfield idx, 3)) (hp : pc2 = pc + 3) (k : VV X Λ nL pc2 lv st (uA σ 11 i v)) : VV X Λ nL pc lv (.int v :: .ref (adr Λ (27 + i)) :: st) σ := v_put C inG3 tyX3 tyX3_ok nmX3 (27 + i) (wdR Λ σ i hi) rfl 1 (by decide) rfl hw rfl (ty := .int) (by decide +kernel) rfl rfl (by decide : 1 < 7) (wsR_1 Λ σ v i hi) hd hp k
theorem vg_X3_height (C : OK X Λ cc nL own fr lo) {idx i : Nat} (hi : i < 10) (hw : Cond.fieldLink own idx RX3 "height" "I" ∈ wsG) (hd : decode cc pc = .ok (.getfield idx, 3)) (hp : pc2 = pc + 3) (k : VV X Λ nL pc2 lv (.int (gA σ 12 i) :: st) σ) : VV X Λ nL pc lv (.ref (adr Λ (27 + i)) :: st) σ := v_get C inG3 (27 + i) (wdR Λ σ i hi) rfl 2 (by decide) rfl hw rfl hd hp k
theorem vp_X3_height (C : OK X Λ cc nL own fr lo) {idx i : Nat} {v : Int32} (hi : i < 10) (hw : Cond.fieldLink own idx RX3 "height" "I" ∈ wsG) (hd : decode cc pc = .ok (.putfield idx, 3)) (hp : pc2 = pc + 3) (k : VV X Λ nL pc2 lv st (uA σ 12 i v)) : VV X Λ nL pc lv (.int v :: .ref (adr Λ (27 + i)) :: st) σ := v_put C inG3 tyX3 tyX3_ok nmX3 (27 + i) (wdR Λ σ i hi) rfl 2 (by decide) rfl hw rfl (ty := .int) (by decide +kernel) rfl rfl (by decide : 2 < 7) (wsR_2 Λ σ v i hi) hd hp k
theorem vg_X3_width (C : OK X Λ cc nL own fr lo) {idx i : Nat} (hi : i < 10) (hw : Cond.fieldLink own idx RX3 "width" "I" ∈ wsG) (hd : decode cc pc = .ok (.getfield idx, 3)) (hp : pc2 = pc + 3) (k : VV X Λ nL pc2 lv (.int (gA σ 13 i) :: st) σ) : VV X Λ nL pc lv (.ref (adr Λ (27 + i)) :: st) σ := v_get C inG3 (27 + i) (wdR Λ σ i hi) rfl 3 (by decide) rfl hw rfl hd hp k
theorem vp_X3_width (C : OK X Λ cc nL own fr lo) {idx i : Nat} {v : Int32} (hi : i < 10) (hw : Cond.fieldLink own idx RX3 "width" "I" ∈ wsG) (hd : decode cc pc = .ok (.putfield idx, 3)) (hp : pc2 = pc + 3) (k : VV X Λ nL pc2 lv st (uA σ 13 i v)) : VV X Λ nL pc lv (.int v :: .ref (adr Λ (27 + i)) :: st) σ := v_put C inG3 tyX3 tyX3_ok nmX3 (27 + i) (wdR Λ σ i hi) rfl 3 (by decide) rfl hw rfl (ty := .int) (by decide +kernel) rfl rfl (by decide : 3 < 7) (wsR_3 Λ σ v i hi) hd hp k
theorem vg_X3_dirt (C : OK X Λ cc nL own fr lo) {idx i : Nat} (hi : i < 10) (hw : Cond.fieldLink own idx RX3 "dirt" "I" ∈ wsG) (hd : decode cc pc = .ok (.getfield idx, 3)) (hp : pc2 = pc + 3) (k : VV X Λ nL pc2 lv (.int (gA σ 14 i) :: st) σ) : VV X Λ nL pc lv (.ref (adr Λ (27 + i)) :: st) σ := v_get C inG3 (27 + i) (wdR Λ σ i hi) rfl 4 (by decide) rfl hw rfl hd hp k
theorem vp_X3_dirt (C : OK X Λ cc nL own fr lo) {idx i : Nat} {v : Int32} (hi : i < 10) (hw : Cond.fieldLink own idx RX3 "dirt" "I" ∈ wsG) (hd : decode cc pc = .ok (.putfield idx, 3)) (hp : pc2 = pc + 3) (k : VV X Λ nL pc2 lv st (uA σ 14 i v)) : VV X Λ nL pc lv (.int v :: .ref (adr Λ (27 + i)) :: st) σ := v_put C inG3 tyX3 tyX3_ok nmX3 (27 + i) (wdR Λ σ i hi) rfl 4 (by decide) rfl hw rfl (ty := .int) (by decide +kernel) rfl rfl (by decide : 4 < 7) (wsR_4 Λ σ v i hi) hd hp k
theorem vg_X3_step (C : OK X Λ cc nL own fr lo) {idx i : Nat} (hi : i < 10) (hw : Cond.fieldLink own idx RX3 "step" "I" ∈ wsG) (hd : decode cc pc = .ok (.getfield idx, 3)) (hp : pc2 = pc + 3) (k : VV X Λ nL pc2 lv (.int (gA σ 15 i) :: st) σ) : VV X Λ nL pc lv (.ref (adr Λ (27 + i)) :: st) σ := v_get C inG3 (27 + i) (wdR Λ σ i hi) rfl 5 (by decide) rfl hw rfl hd hp k
theorem vp_X3_step (C : OK X Λ cc nL own fr lo) {idx i : Nat} {v : Int32} (hi : i < 10) (hw : Cond.fieldLink own idx RX3 "step" "I" ∈ wsG) (hd : decode cc pc = .ok (.putfield idx, 3)) (hp : pc2 = pc + 3) (k : VV X Λ nL pc2 lv st (uA σ 15 i v)) : VV X Λ nL pc lv (.int v :: .ref (adr Λ (27 + i)) :: st) σ := v_put C inG3 tyX3 tyX3_ok nmX3 (27 + i) (wdR Λ σ i hi) rfl 5 (by decide) rfl hw rfl (ty := .int) (by decide +kernel) rfl rfl (by decide : 5 < 7) (wsR_5 Λ σ v i hi) hd hp k
theorem vg_X3_inString (C : OK X Λ cc nL own fr lo) {idx i : Nat} (hi : i < 10) (hw : Cond.fieldLink own idx RX3 "inString" "I" ∈ wsG) (hd : decode cc pc = .ok (.getfield idx, 3)) (hp : pc2 = pc + 3) (k : VV X Λ nL pc2 lv (.int (gA σ 16 i) :: st) σ) : VV X Λ nL pc lv (.ref (adr Λ (27 + i)) :: st) σ := v_get C inG3 (27 + i) (wdR Λ σ i hi) rfl 6 (by decide) rfl hw rfl hd hp k
theorem vp_X3_inString (C : OK X Λ cc nL own fr lo) {idx i : Nat} {v : Int32} (hi : i < 10) (hw : Cond.fieldLink own idx RX3 "inString" "I" ∈ wsG) (hd : decode cc pc = .ok (.putfield idx, 3)) (hp : pc2 = pc + 3) (k : VV X Λ nL pc2 lv st (uA σ 16 i v)) : VV X Λ nL pc lv (.int v :: .ref (adr Λ (27 + i)) :: st) σ := v_put C inG3 tyX3 tyX3_ok nmX3 (27 + i) (wdR Λ σ i hi) rfl 6 (by decide) rfl hw rfl (ty := .int) (by decide +kernel) rfl rfl (by decide : 6 < 7) (wsR_6 Λ σ v i hi) hd hp k
theorem al8 (C : OK X Λ cc nL own fr lo) {i : Int32} (hin : vp_in i 5) (hd : decode cc pc = .ok (.iaload, 1)) (hp : pc2 = pc + 1) (k : VV X Λ nL pc2 lv (.int (gA σ 0 i.toNatClampNeg) :: st) σ) : VV X Λ nL pc lv (.int i :: .ref (adr Λ 8) :: st) σ := v_iald C 8 (wd8 Λ σ) hin hd hp k
theorem as8 (C : OK X Λ cc nL own fr lo) {i x : Int32} (hin : vp_in i 5) (hd : decode cc pc = .ok (.iastore, 1)) (hp : pc2 = pc + 1) (k : VV X Λ nL pc2 lv st (uA σ 0 i.toNatClampNeg x)) : VV X Λ nL pc lv (.int x :: .int i :: .ref (adr Λ 8) :: st) σ := v_iast C 8 (wd8 Λ σ) hin (ws8 Λ σ _ _) hd hp k
theorem al11 (C : OK X Λ cc nL own fr lo) {i : Int32} (hin : vp_in i 10) (hd : decode cc pc = .ok (.laload, 1)) (hp : pc2 = pc + 1) (k : VV X Λ nL pc2 lv (.long (gB σ 0 i.toNatClampNeg) :: st) σ) : VV X Λ nL pc lv (.int i :: .ref (adr Λ 11) :: st) σ := v_lald C 11 (wd11 Λ σ) hin hd hp k
theorem as11 (C : OK X Λ cc nL own fr lo) {i : Int32} {x : Int64} (hin : vp_in i 10) (hd : decode cc pc = .ok (.lastore, 1)) (hp : pc2 = pc + 1) (k : VV X Λ nL pc2 lv st (uB σ 0 i.toNatClampNeg x)) : VV X Λ nL pc lv (.long x :: .int i :: .ref (adr Λ 11) :: st) σ := v_last C 11 (wd11 Λ σ) hin (ws11 Λ σ _ _) hd hp k
theorem al12 (C : OK X Λ cc nL own fr lo) {i : Int32} (hin : vp_in i 10) (hd : decode cc pc = .ok (.laload, 1)) (hp : pc2 = pc + 1) (k : VV X Λ nL pc2 lv (.long (gB σ 1 i.toNatClampNeg) :: st) σ) : VV X Λ nL pc lv (.int i :: .ref (adr Λ 12) :: st) σ := v_lald C 12 (wd12 Λ σ) hin hd hp k
theorem as12 (C : OK X Λ cc nL own fr lo) {i : Int32} {x : Int64} (hin : vp_in i 10) (hd : decode cc pc = .ok (.lastore, 1)) (hp : pc2 = pc + 1) (k : VV X Λ nL pc2 lv st (uB σ 1 i.toNatClampNeg x)) : VV X Λ nL pc lv (.long x :: .int i :: .ref (adr Λ 12) :: st) σ := v_last C 12 (wd12 Λ σ) hin (ws12 Λ σ _ _) hd hp k
theorem al13 (C : OK X Λ cc nL own fr lo) {i : Int32} (hin : vp_in i 10) (hd : decode cc pc = .ok (.iaload, 1)) (hp : pc2 = pc + 1) (k : VV X Λ nL pc2 lv (.int (gA σ 1 i.toNatClampNeg) :: st) σ) : VV X Λ nL pc lv (.int i :: .ref (adr Λ 13) :: st) σ := v_iald C 13 (wd13 Λ σ) hin hd hp k
theorem as13 (C : OK X Λ cc nL own fr lo) {i x : Int32} (hin : vp_in i 10) (hd : decode cc pc = .ok (.iastore, 1)) (hp : pc2 = pc + 1) (k : VV X Λ nL pc2 lv st (uA σ 1 i.toNatClampNeg x)) : VV X Λ nL pc lv (.int x :: .int i :: .ref (adr Λ 13) :: st) σ := v_iast C 13 (wd13 Λ σ) hin (ws13 Λ σ _ _) hd hp k
theorem al14 (C : OK X Λ cc nL own fr lo) {i : Int32} (hin : vp_in i 24) (hd : decode cc pc = .ok (.iaload, 1)) (hp : pc2 = pc + 1) (k : VV X Λ nL pc2 lv (.int (gA σ 2 i.toNatClampNeg) :: st) σ) : VV X Λ nL pc lv (.int i :: .ref (adr Λ 14) :: st) σ := v_iald C 14 (wd14 Λ σ) hin hd hp k
theorem as14 (C : OK X Λ cc nL own fr lo) {i x : Int32} (hin : vp_in i 24) (hd : decode cc pc = .ok (.iastore, 1)) (hp : pc2 = pc + 1) (k : VV X Λ nL pc2 lv st (uA σ 2 i.toNatClampNeg x)) : VV X Λ nL pc lv (.int x :: .int i :: .ref (adr Λ 14) :: st) σ := v_iast C 14 (wd14 Λ σ) hin (ws14 Λ σ _ _) hd hp k
theorem al15 (C : OK X Λ cc nL own fr lo) {i : Int32} (hin : vp_in i 24) (hd : decode cc pc = .ok (.iaload, 1)) (hp : pc2 = pc + 1) (k : VV X Λ nL pc2 lv (.int (gA σ 3 i.toNatClampNeg) :: st) σ) : VV X Λ nL pc lv (.int i :: .ref (adr Λ 15) :: st) σ := v_iald C 15 (wd15 Λ σ) hin hd hp k
theorem as15 (C : OK X Λ cc nL own fr lo) {i x : Int32} (hin : vp_in i 24) (hd : decode cc pc = .ok (.iastore, 1)) (hp : pc2 = pc + 1) (k : VV X Λ nL pc2 lv st (uA σ 3 i.toNatClampNeg x)) : VV X Λ nL pc lv (.int x :: .int i :: .ref (adr Λ 15) :: st) σ := v_iast C 15 (wd15 Λ σ) hin (ws15 Λ σ _ _) hd hp k
theorem al16 (C : OK X Λ cc nL own fr lo) {i : Int32} (hin : vp_in i 4) (hd : decode cc pc = .ok (.iaload, 1)) (hp : pc2 = pc + 1) (k : VV X Λ nL pc2 lv (.int (gA σ 4 i.toNatClampNeg) :: st) σ) : VV X Λ nL pc lv (.int i :: .ref (adr Λ 16) :: st) σ := v_iald C 16 (wd16 Λ σ) hin hd hp k
theorem as16 (C : OK X Λ cc nL own fr lo) {i x : Int32} (hin : vp_in i 4) (hd : decode cc pc = .ok (.iastore, 1)) (hp : pc2 = pc + 1) (k : VV X Λ nL pc2 lv st (uA σ 4 i.toNatClampNeg x)) : VV X Λ nL pc lv (.int x :: .int i :: .ref (adr Λ 16) :: st) σ := v_iast C 16 (wd16 Λ σ) hin (ws16 Λ σ _ _) hd hp k
theorem al17 (C : OK X Λ cc nL own fr lo) {i : Int32} (hin : vp_in i 10) (hd : decode cc pc = .ok (.iaload, 1)) (hp : pc2 = pc + 1) (k : VV X Λ nL pc2 lv (.int (gA σ 5 i.toNatClampNeg) :: st) σ) : VV X Λ nL pc lv (.int i :: .ref (adr Λ 17) :: st) σ := v_iald C 17 (wd17 Λ σ) hin hd hp k
theorem as17 (C : OK X Λ cc nL own fr lo) {i x : Int32} (hin : vp_in i 10) (hd : decode cc pc = .ok (.iastore, 1)) (hp : pc2 = pc + 1) (k : VV X Λ nL pc2 lv st (uA σ 5 i.toNatClampNeg x)) : VV X Λ nL pc lv (.int x :: .int i :: .ref (adr Λ 17) :: st) σ := v_iast C 17 (wd17 Λ σ) hin (ws17 Λ σ _ _) hd hp k
theorem al18 (C : OK X Λ cc nL own fr lo) {i : Int32} (hin : vp_in i 24) (hd : decode cc pc = .ok (.iaload, 1)) (hp : pc2 = pc + 1) (k : VV X Λ nL pc2 lv (.int (gA σ 6 i.toNatClampNeg) :: st) σ) : VV X Λ nL pc lv (.int i :: .ref (adr Λ 18) :: st) σ := v_iald C 18 (wd18 Λ σ) hin hd hp k
theorem as18 (C : OK X Λ cc nL own fr lo) {i x : Int32} (hin : vp_in i 24) (hd : decode cc pc = .ok (.iastore, 1)) (hp : pc2 = pc + 1) (k : VV X Λ nL pc2 lv st (uA σ 6 i.toNatClampNeg x)) : VV X Λ nL pc lv (.int x :: .int i :: .ref (adr Λ 18) :: st) σ := v_iast C 18 (wd18 Λ σ) hin (ws18 Λ σ _ _) hd hp k
theorem al19 (C : OK X Λ cc nL own fr lo) {i : Int32} (hin : vp_in i 24) (hd : decode cc pc = .ok (.baload, 1)) (hp : pc2 = pc + 1) (k : VV X Λ nL pc2 lv (.int (gA σ 7 i.toNatClampNeg) :: st) σ) : VV X Λ nL pc lv (.int i :: .ref (adr Λ 19) :: st) σ := v_zald C 19 (wd19 Λ σ) hin hd hp k
theorem as19 (C : OK X Λ cc nL own fr lo) {i x : Int32} (hin : vp_in i 24) (hd : decode cc pc = .ok (.bastore, 1)) (hp : pc2 = pc + 1) (k : VV X Λ nL pc2 lv st (uA σ 7 i.toNatClampNeg (vp_nar .boolean x))) : VV X Λ nL pc lv (.int x :: .int i :: .ref (adr Λ 19) :: st) σ := v_zast C 19 (wd19 Λ σ) hin (ws19 Λ σ _ _) hd hp k
theorem al20 (C : OK X Λ cc nL own fr lo) {i : Int32} (hin : vp_in i 6) (hd : decode cc pc = .ok (.laload, 1)) (hp : pc2 = pc + 1) (k : VV X Λ nL pc2 lv (.long (gB σ 2 i.toNatClampNeg) :: st) σ) : VV X Λ nL pc lv (.int i :: .ref (adr Λ 20) :: st) σ := v_lald C 20 (wd20 Λ σ) hin hd hp k
theorem as20 (C : OK X Λ cc nL own fr lo) {i : Int32} {x : Int64} (hin : vp_in i 6) (hd : decode cc pc = .ok (.lastore, 1)) (hp : pc2 = pc + 1) (k : VV X Λ nL pc2 lv st (uB σ 2 i.toNatClampNeg x)) : VV X Λ nL pc lv (.long x :: .int i :: .ref (adr Λ 20) :: st) σ := v_last C 20 (wd20 Λ σ) hin (ws20 Λ σ _ _) hd hp k
theorem al21 (C : OK X Λ cc nL own fr lo) {i : Int32} (hin : vp_in i 6) (hd : decode cc pc = .ok (.laload, 1)) (hp : pc2 = pc + 1) (k : VV X Λ nL pc2 lv (.long (gB σ 3 i.toNatClampNeg) :: st) σ) : VV X Λ nL pc lv (.int i :: .ref (adr Λ 21) :: st) σ := v_lald C 21 (wd21 Λ σ) hin hd hp k
theorem as21 (C : OK X Λ cc nL own fr lo) {i : Int32} {x : Int64} (hin : vp_in i 6) (hd : decode cc pc = .ok (.lastore, 1)) (hp : pc2 = pc + 1) (k : VV X Λ nL pc2 lv st (uB σ 3 i.toNatClampNeg x)) : VV X Λ nL pc lv (.long x :: .int i :: .ref (adr Λ 21) :: st) σ := v_last C 21 (wd21 Λ σ) hin (ws21 Λ σ _ _) hd hp k
theorem al22 (C : OK X Λ cc nL own fr lo) {i : Int32} (hin : vp_in i 72) (hd : decode cc pc = .ok (.iaload, 1)) (hp : pc2 = pc + 1) (k : VV X Λ nL pc2 lv (.int (gA σ 8 i.toNatClampNeg) :: st) σ) : VV X Λ nL pc lv (.int i :: .ref (adr Λ 22) :: st) σ := v_iald C 22 (wd22 Λ σ) hin hd hp k
theorem as22 (C : OK X Λ cc nL own fr lo) {i x : Int32} (hin : vp_in i 72) (hd : decode cc pc = .ok (.iastore, 1)) (hp : pc2 = pc + 1) (k : VV X Λ nL pc2 lv st (uA σ 8 i.toNatClampNeg x)) : VV X Λ nL pc lv (.int x :: .int i :: .ref (adr Λ 22) :: st) σ := v_iast C 22 (wd22 Λ σ) hin (ws22 Λ σ _ _) hd hp k
theorem al23 (C : OK X Λ cc nL own fr lo) {i : Int32} (hin : vp_in i 10) (hd : decode cc pc = .ok (.laload, 1)) (hp : pc2 = pc + 1) (k : VV X Λ nL pc2 lv (.long (gB σ 4 i.toNatClampNeg) :: st) σ) : VV X Λ nL pc lv (.int i :: .ref (adr Λ 23) :: st) σ := v_lald C 23 (wd23 Λ σ) hin hd hp k
theorem as23 (C : OK X Λ cc nL own fr lo) {i : Int32} {x : Int64} (hin : vp_in i 10) (hd : decode cc pc = .ok (.lastore, 1)) (hp : pc2 = pc + 1) (k : VV X Λ nL pc2 lv st (uB σ 4 i.toNatClampNeg x)) : VV X Λ nL pc lv (.long x :: .int i :: .ref (adr Λ 23) :: st) σ := v_last C 23 (wd23 Λ σ) hin (ws23 Λ σ _ _) hd hp k
theorem al24 (C : OK X Λ cc nL own fr lo) {i : Int32} (hin : vp_in i 10) (hd : decode cc pc = .ok (.laload, 1)) (hp : pc2 = pc + 1) (k : VV X Λ nL pc2 lv (.long (gB σ 5 i.toNatClampNeg) :: st) σ) : VV X Λ nL pc lv (.int i :: .ref (adr Λ 24) :: st) σ := v_lald C 24 (wd24 Λ σ) hin hd hp k
theorem as24 (C : OK X Λ cc nL own fr lo) {i : Int32} {x : Int64} (hin : vp_in i 10) (hd : decode cc pc = .ok (.lastore, 1)) (hp : pc2 = pc + 1) (k : VV X Λ nL pc2 lv st (uB σ 5 i.toNatClampNeg x)) : VV X Λ nL pc lv (.long x :: .int i :: .ref (adr Λ 24) :: st) σ := v_last C 24 (wd24 Λ σ) hin (ws24 Λ σ _ _) hd hp k
theorem al25 (C : OK X Λ cc nL own fr lo) {i : Int32} (hin : vp_in i 10) (hd : decode cc pc = .ok (.laload, 1)) (hp : pc2 = pc + 1) (k : VV X Λ nL pc2 lv (.long (gB σ 6 i.toNatClampNeg) :: st) σ) : VV X Λ nL pc lv (.int i :: .ref (adr Λ 25) :: st) σ := v_lald C 25 (wd25 Λ σ) hin hd hp k
theorem as25 (C : OK X Λ cc nL own fr lo) {i : Int32} {x : Int64} (hin : vp_in i 10) (hd : decode cc pc = .ok (.lastore, 1)) (hp : pc2 = pc + 1) (k : VV X Λ nL pc2 lv st (uB σ 6 i.toNatClampNeg x)) : VV X Λ nL pc lv (.long x :: .int i :: .ref (adr Λ 25) :: st) σ := v_last C 25 (wd25 Λ σ) hin (ws25 Λ σ _ _) hd hp k
theorem al26 (C : OK X Λ cc nL own fr lo) {i : Int32} (hin : vp_in i 10) (hd : decode cc pc = .ok (.laload, 1)) (hp : pc2 = pc + 1) (k : VV X Λ nL pc2 lv (.long (gB σ 7 i.toNatClampNeg) :: st) σ) : VV X Λ nL pc lv (.int i :: .ref (adr Λ 26) :: st) σ := v_lald C 26 (wd26 Λ σ) hin hd hp k
theorem as26 (C : OK X Λ cc nL own fr lo) {i : Int32} {x : Int64} (hin : vp_in i 10) (hd : decode cc pc = .ok (.lastore, 1)) (hp : pc2 = pc + 1) (k : VV X Λ nL pc2 lv st (uB σ 7 i.toNatClampNeg x)) : VV X Λ nL pc lv (.long x :: .int i :: .ref (adr Λ 26) :: st) σ := v_last C 26 (wd26 Λ σ) hin (ws26 Λ σ _ _) hd hp k
theorem al38 (C : OK X Λ cc nL own fr lo) {i : Int32} (hin : vp_in i 10) (hd : decode cc pc = .ok (.iaload, 1)) (hp : pc2 = pc + 1) (k : VV X Λ nL pc2 lv (.int (gA σ 20 i.toNatClampNeg) :: st) σ) : VV X Λ nL pc lv (.int i :: .ref (adr Λ 38) :: st) σ := v_iald C 38 (wd38 Λ σ) hin hd hp k
theorem as38 (C : OK X Λ cc nL own fr lo) {i x : Int32} (hin : vp_in i 10) (hd : decode cc pc = .ok (.iastore, 1)) (hp : pc2 = pc + 1) (k : VV X Λ nL pc2 lv st (uA σ 20 i.toNatClampNeg x)) : VV X Λ nL pc lv (.int x :: .int i :: .ref (adr Λ 38) :: st) σ := v_iast C 38 (wd38 Λ σ) hin (ws38 Λ σ _ _) hd hp k
theorem al39 (C : OK X Λ cc nL own fr lo) {i : Int32} (hin : vp_in i 10) (hd : decode cc pc = .ok (.iaload, 1)) (hp : pc2 = pc + 1) (k : VV X Λ nL pc2 lv (.int (gA σ 21 i.toNatClampNeg) :: st) σ) : VV X Λ nL pc lv (.int i :: .ref (adr Λ 39) :: st) σ := v_iald C 39 (wd39 Λ σ) hin hd hp k
theorem as39 (C : OK X Λ cc nL own fr lo) {i x : Int32} (hin : vp_in i 10) (hd : decode cc pc = .ok (.iastore, 1)) (hp : pc2 = pc + 1) (k : VV X Λ nL pc2 lv st (uA σ 21 i.toNatClampNeg x)) : VV X Λ nL pc lv (.int x :: .int i :: .ref (adr Λ 39) :: st) σ := v_iast C 39 (wd39 Λ σ) hin (ws39 Λ σ _ _) hd hp k
theorem al40 (C : OK X Λ cc nL own fr lo) {i : Int32} (hin : vp_in i 10) (hd : decode cc pc = .ok (.iaload, 1)) (hp : pc2 = pc + 1) (k : VV X Λ nL pc2 lv (.int (gA σ 22 i.toNatClampNeg) :: st) σ) : VV X Λ nL pc lv (.int i :: .ref (adr Λ 40) :: st) σ := v_iald C 40 (wd40 Λ σ) hin hd hp k
theorem as40 (C : OK X Λ cc nL own fr lo) {i x : Int32} (hin : vp_in i 10) (hd : decode cc pc = .ok (.iastore, 1)) (hp : pc2 = pc + 1) (k : VV X Λ nL pc2 lv st (uA σ 22 i.toNatClampNeg x)) : VV X Λ nL pc lv (.int x :: .int i :: .ref (adr Λ 40) :: st) σ := v_iast C 40 (wd40 Λ σ) hin (ws40 Λ σ _ _) hd hp k
theorem al41 (C : OK X Λ cc nL own fr lo) {i : Int32} (hin : vp_in i 10) (hd : decode cc pc = .ok (.iaload, 1)) (hp : pc2 = pc + 1) (k : VV X Λ nL pc2 lv (.int (gA σ 23 i.toNatClampNeg) :: st) σ) : VV X Λ nL pc lv (.int i :: .ref (adr Λ 41) :: st) σ := v_iald C 41 (wd41 Λ σ) hin hd hp k
theorem as41 (C : OK X Λ cc nL own fr lo) {i x : Int32} (hin : vp_in i 10) (hd : decode cc pc = .ok (.iastore, 1)) (hp : pc2 = pc + 1) (k : VV X Λ nL pc2 lv st (uA σ 23 i.toNatClampNeg x)) : VV X Λ nL pc lv (.int x :: .int i :: .ref (adr Λ 41) :: st) σ := v_iast C 41 (wd41 Λ σ) hin (ws41 Λ σ _ _) hd hp k
theorem al42 (C : OK X Λ cc nL own fr lo) {i : Int32} (hin : vp_in i 10) (hd : decode cc pc = .ok (.iaload, 1)) (hp : pc2 = pc + 1) (k : VV X Λ nL pc2 lv (.int (gA σ 24 i.toNatClampNeg) :: st) σ) : VV X Λ nL pc lv (.int i :: .ref (adr Λ 42) :: st) σ := v_iald C 42 (wd42 Λ σ) hin hd hp k
theorem as42 (C : OK X Λ cc nL own fr lo) {i x : Int32} (hin : vp_in i 10) (hd : decode cc pc = .ok (.iastore, 1)) (hp : pc2 = pc + 1) (k : VV X Λ nL pc2 lv st (uA σ 24 i.toNatClampNeg x)) : VV X Λ nL pc lv (.int x :: .int i :: .ref (adr Λ 42) :: st) σ := v_iast C 42 (wd42 Λ σ) hin (ws42 Λ σ _ _) hd hp k
theorem al43 (C : OK X Λ cc nL own fr lo) {i : Int32} (hin : vp_in i 10) (hd : decode cc pc = .ok (.iaload, 1)) (hp : pc2 = pc + 1) (k : VV X Λ nL pc2 lv (.int (gA σ 25 i.toNatClampNeg) :: st) σ) : VV X Λ nL pc lv (.int i :: .ref (adr Λ 43) :: st) σ := v_iald C 43 (wd43 Λ σ) hin hd hp k
theorem as43 (C : OK X Λ cc nL own fr lo) {i x : Int32} (hin : vp_in i 10) (hd : decode cc pc = .ok (.iastore, 1)) (hp : pc2 = pc + 1) (k : VV X Λ nL pc2 lv st (uA σ 25 i.toNatClampNeg x)) : VV X Λ nL pc lv (.int x :: .int i :: .ref (adr Λ 43) :: st) σ := v_iast C 43 (wd43 Λ σ) hin (ws43 Λ σ _ _) hd hp k
theorem al44 (C : OK X Λ cc nL own fr lo) {i : Int32} (hin : vp_in i 10) (hd : decode cc pc = .ok (.iaload, 1)) (hp : pc2 = pc + 1) (k : VV X Λ nL pc2 lv (.int (gA σ 26 i.toNatClampNeg) :: st) σ) : VV X Λ nL pc lv (.int i :: .ref (adr Λ 44) :: st) σ := v_iald C 44 (wd44 Λ σ) hin hd hp k
theorem as44 (C : OK X Λ cc nL own fr lo) {i x : Int32} (hin : vp_in i 10) (hd : decode cc pc = .ok (.iastore, 1)) (hp : pc2 = pc + 1) (k : VV X Λ nL pc2 lv st (uA σ 26 i.toNatClampNeg x)) : VV X Λ nL pc lv (.int x :: .int i :: .ref (adr Λ 44) :: st) σ := v_iast C 44 (wd44 Λ σ) hin (ws44 Λ σ _ _) hd hp k
theorem al45 (C : OK X Λ cc nL own fr lo) {i : Int32} (hin : vp_in i 24) (hd : decode cc pc = .ok (.iaload, 1)) (hp : pc2 = pc + 1) (k : VV X Λ nL pc2 lv (.int (gA σ 27 i.toNatClampNeg) :: st) σ) : VV X Λ nL pc lv (.int i :: .ref (adr Λ 45) :: st) σ := v_iald C 45 (wd45 Λ σ) hin hd hp k
theorem as45 (C : OK X Λ cc nL own fr lo) {i x : Int32} (hin : vp_in i 24) (hd : decode cc pc = .ok (.iastore, 1)) (hp : pc2 = pc + 1) (k : VV X Λ nL pc2 lv st (uA σ 27 i.toNatClampNeg x)) : VV X Λ nL pc lv (.int x :: .int i :: .ref (adr Λ 45) :: st) σ := v_iast C 45 (wd45 Λ σ) hin (ws45 Λ σ _ _) hd hp k
theorem al46 (C : OK X Λ cc nL own fr lo) {i : Int32} (hin : vp_in i 24) (hd : decode cc pc = .ok (.iaload, 1)) (hp : pc2 = pc + 1) (k : VV X Λ nL pc2 lv (.int (gA σ 28 i.toNatClampNeg) :: st) σ) : VV X Λ nL pc lv (.int i :: .ref (adr Λ 46) :: st) σ := v_iald C 46 (wd46 Λ σ) hin hd hp k
theorem as46 (C : OK X Λ cc nL own fr lo) {i x : Int32} (hin : vp_in i 24) (hd : decode cc pc = .ok (.iastore, 1)) (hp : pc2 = pc + 1) (k : VV X Λ nL pc2 lv st (uA σ 28 i.toNatClampNeg x)) : VV X Λ nL pc lv (.int x :: .int i :: .ref (adr Λ 46) :: st) σ := v_iast C 46 (wd46 Λ σ) hin (ws46 Λ σ _ _) hd hp k
theorem al47 (C : OK X Λ cc nL own fr lo) {i : Int32} (hin : vp_in i 24) (hd : decode cc pc = .ok (.iaload, 1)) (hp : pc2 = pc + 1) (k : VV X Λ nL pc2 lv (.int (gA σ 29 i.toNatClampNeg) :: st) σ) : VV X Λ nL pc lv (.int i :: .ref (adr Λ 47) :: st) σ := v_iald C 47 (wd47 Λ σ) hin hd hp k
theorem as47 (C : OK X Λ cc nL own fr lo) {i x : Int32} (hin : vp_in i 24) (hd : decode cc pc = .ok (.iastore, 1)) (hp : pc2 = pc + 1) (k : VV X Λ nL pc2 lv st (uA σ 29 i.toNatClampNeg x)) : VV X Λ nL pc lv (.int x :: .int i :: .ref (adr Λ 47) :: st) σ := v_iast C 47 (wd47 Λ σ) hin (ws47 Λ σ _ _) hd hp k
theorem al48 (C : OK X Λ cc nL own fr lo) {i : Int32} (hin : vp_in i 24) (hd : decode cc pc = .ok (.baload, 1)) (hp : pc2 = pc + 1) (k : VV X Λ nL pc2 lv (.int (gA σ 30 i.toNatClampNeg) :: st) σ) : VV X Λ nL pc lv (.int i :: .ref (adr Λ 48) :: st) σ := v_zald C 48 (wd48 Λ σ) hin hd hp k
theorem as48 (C : OK X Λ cc nL own fr lo) {i x : Int32} (hin : vp_in i 24) (hd : decode cc pc = .ok (.bastore, 1)) (hp : pc2 = pc + 1) (k : VV X Λ nL pc2 lv st (uA σ 30 i.toNatClampNeg (vp_nar .boolean x))) : VV X Λ nL pc lv (.int x :: .int i :: .ref (adr Λ 48) :: st) σ := v_zast C 48 (wd48 Λ σ) hin (ws48 Λ σ _ _) hd hp k
theorem al49 (C : OK X Λ cc nL own fr lo) {i : Int32} (hin : vp_in i 4) (hd : decode cc pc = .ok (.iaload, 1)) (hp : pc2 = pc + 1) (k : VV X Λ nL pc2 lv (.int (gA σ 31 i.toNatClampNeg) :: st) σ) : VV X Λ nL pc lv (.int i :: .ref (adr Λ 49) :: st) σ := v_iald C 49 (wd49 Λ σ) hin hd hp k
theorem as49 (C : OK X Λ cc nL own fr lo) {i x : Int32} (hin : vp_in i 4) (hd : decode cc pc = .ok (.iastore, 1)) (hp : pc2 = pc + 1) (k : VV X Λ nL pc2 lv st (uA σ 31 i.toNatClampNeg x)) : VV X Λ nL pc lv (.int x :: .int i :: .ref (adr Λ 49) :: st) σ := v_iast C 49 (wd49 Λ σ) hin (ws49 Λ σ _ _) hd hp k
theorem al50 (C : OK X Λ cc nL own fr lo) {i : Int32} (hin : vp_in i 8) (hd : decode cc pc = .ok (.laload, 1)) (hp : pc2 = pc + 1) (k : VV X Λ nL pc2 lv (.long (gB σ 10 i.toNatClampNeg) :: st) σ) : VV X Λ nL pc lv (.int i :: .ref (adr Λ 50) :: st) σ := v_lald C 50 (wd50 Λ σ) hin hd hp k
theorem as50 (C : OK X Λ cc nL own fr lo) {i : Int32} {x : Int64} (hin : vp_in i 8) (hd : decode cc pc = .ok (.lastore, 1)) (hp : pc2 = pc + 1) (k : VV X Λ nL pc2 lv st (uB σ 10 i.toNatClampNeg x)) : VV X Λ nL pc lv (.long x :: .int i :: .ref (adr Λ 50) :: st) σ := v_last C 50 (wd50 Λ σ) hin (ws50 Λ σ _ _) hd hp k
theorem al51 (C : OK X Λ cc nL own fr lo) {i : Int32} (hin : vp_in i 6) (hd : decode cc pc = .ok (.laload, 1)) (hp : pc2 = pc + 1) (k : VV X Λ nL pc2 lv (.long (gB σ 11 i.toNatClampNeg) :: st) σ) : VV X Λ nL pc lv (.int i :: .ref (adr Λ 51) :: st) σ := v_lald C 51 (wd51 Λ σ) hin hd hp k
theorem as51 (C : OK X Λ cc nL own fr lo) {i : Int32} {x : Int64} (hin : vp_in i 6) (hd : decode cc pc = .ok (.lastore, 1)) (hp : pc2 = pc + 1) (k : VV X Λ nL pc2 lv st (uB σ 11 i.toNatClampNeg x)) : VV X Λ nL pc lv (.long x :: .int i :: .ref (adr Λ 51) :: st) σ := v_last C 51 (wd51 Λ σ) hin (ws51 Λ σ _ _) hd hp k
theorem al52 (C : OK X Λ cc nL own fr lo) {i : Int32} (hin : vp_in i 72) (hd : decode cc pc = .ok (.iaload, 1)) (hp : pc2 = pc + 1) (k : VV X Λ nL pc2 lv (.int (gA σ 32 i.toNatClampNeg) :: st) σ) : VV X Λ nL pc lv (.int i :: .ref (adr Λ 52) :: st) σ := v_iald C 52 (wd52 Λ σ) hin hd hp k
theorem as52 (C : OK X Λ cc nL own fr lo) {i x : Int32} (hin : vp_in i 72) (hd : decode cc pc = .ok (.iastore, 1)) (hp : pc2 = pc + 1) (k : VV X Λ nL pc2 lv st (uA σ 32 i.toNatClampNeg x)) : VV X Λ nL pc lv (.int x :: .int i :: .ref (adr Λ 52) :: st) σ := v_iast C 52 (wd52 Λ σ) hin (ws52 Λ σ _ _) hd hp k
theorem al53 (C : OK X Λ cc nL own fr lo) {i : Int32} (hin : vp_in i 6) (hd : decode cc pc = .ok (.iaload, 1)) (hp : pc2 = pc + 1) (k : VV X Λ nL pc2 lv (.int (gA σ 33 i.toNatClampNeg) :: st) σ) : VV X Λ nL pc lv (.int i :: .ref (adr Λ 53) :: st) σ := v_iald C 53 (wd53 Λ σ) hin hd hp k
theorem as53 (C : OK X Λ cc nL own fr lo) {i x : Int32} (hin : vp_in i 6) (hd : decode cc pc = .ok (.iastore, 1)) (hp : pc2 = pc + 1) (k : VV X Λ nL pc2 lv st (uA σ 33 i.toNatClampNeg x)) : VV X Λ nL pc lv (.int x :: .int i :: .ref (adr Λ 53) :: st) σ := v_iast C 53 (wd53 Λ σ) hin (ws53 Λ σ _ _) hd hp k
theorem al54 (C : OK X Λ cc nL own fr lo) {i : Int32} (hin : vp_in i 10) (hd : decode cc pc = .ok (.laload, 1)) (hp : pc2 = pc + 1) (k : VV X Λ nL pc2 lv (.long (gB σ 12 i.toNatClampNeg) :: st) σ) : VV X Λ nL pc lv (.int i :: .ref (adr Λ 54) :: st) σ := v_lald C 54 (wd54 Λ σ) hin hd hp k
theorem as54 (C : OK X Λ cc nL own fr lo) {i : Int32} {x : Int64} (hin : vp_in i 10) (hd : decode cc pc = .ok (.lastore, 1)) (hp : pc2 = pc + 1) (k : VV X Λ nL pc2 lv st (uB σ 12 i.toNatClampNeg x)) : VV X Λ nL pc lv (.long x :: .int i :: .ref (adr Λ 54) :: st) σ := v_last C 54 (wd54 Λ σ) hin (ws54 Λ σ _ _) hd hp k
theorem v_cVi (C : OK X Λ cc nL own fr lo) {idx n : Nat} {ci q0 b N : Nat} {Cn : String} {T : u_T} {fs : List Value} {y : MethodName} {c2 : ByteArray} {n2 fr2 lo2 : Nat} {ret : Option FieldType} {As rest : List Value} {r : Int32} (K : KV own idx Cn y c2 n2 ret n) (hM : CT (xl X) Λ y c2 n2 ret fr2 lo2 (.ref b :: As) σ (some (.int r)) σ2) (he : (Wd Λ σ)[q0]? = some (b, .inr (ci, fs))) (hc : vwCl[ci]? = some (Cn, T, N)) (hR : fr2 + 1 ≤ fr ∧ 8 + (n2 + 11) + lo2 ≤ lo) (hst : st = As.reverse ++ .ref b :: rest) (hn : As.length = n) (hcat : (rest.map fun v => v.category).sum ≤ 8) (hd : decode cc pc = .ok (.invokevirtual idx, 3)) (hp : pc2 = pc + 3) (k : VV X Λ nL pc2 lv (.int r :: rest) σ2) : VV X Λ nL pc lv st σ := v_callV C K hM he hc hR hst hn hcat hd hp k
theorem v_cVl (C : OK X Λ cc nL own fr lo) {idx n : Nat} {ci q0 b N : Nat} {Cn : String} {T : u_T} {fs : List Value} {y : MethodName} {c2 : ByteArray} {n2 fr2 lo2 : Nat} {ret : Option FieldType} {As rest : List Value} {r : Int64} (K : KV own idx Cn y c2 n2 ret n) (hM : CT (xl X) Λ y c2 n2 ret fr2 lo2 (.ref b :: As) σ (some (.long r)) σ2) (he : (Wd Λ σ)[q0]? = some (b, .inr (ci, fs))) (hc : vwCl[ci]? = some (Cn, T, N)) (hR : fr2 + 1 ≤ fr ∧ 8 + (n2 + 11) + lo2 ≤ lo) (hst : st = As.reverse ++ .ref b :: rest) (hn : As.length = n) (hcat : (rest.map fun v => v.category).sum ≤ 8) (hd : decode cc pc = .ok (.invokevirtual idx, 3)) (hp : pc2 = pc + 3) (k : VV X Λ nL pc2 lv (.long r :: rest) σ2) : VV X Λ nL pc lv st σ := v_callV C K hM he hc hR hst hn hcat hd hp k
theorem v_cVv (C : OK X Λ cc nL own fr lo) {idx n : Nat} {ci q0 b N : Nat} {Cn : String} {T : u_T} {fs : List Value} {y : MethodName} {c2 : ByteArray} {n2 fr2 lo2 : Nat} {ret : Option FieldType} {As rest : List Value} (K : KV own idx Cn y c2 n2 ret n) (hM : CT (xl X) Λ y c2 n2 ret fr2 lo2 (.ref b :: As) σ none σ2) (he : (Wd Λ σ)[q0]? = some (b, .inr (ci, fs))) (hc : vwCl[ci]? = some (Cn, T, N)) (hR : fr2 + 1 ≤ fr ∧ 8 + (n2 + 11) + lo2 ≤ lo) (hst : st = As.reverse ++ .ref b :: rest) (hn : As.length = n) (hcat : (rest.map fun v => v.category).sum ≤ 8) (hd : decode cc pc = .ok (.invokevirtual idx, 3)) (hp : pc2 = pc + 3) (k : VV X Λ nL pc2 lv (rest) σ2) : VV X Λ nL pc lv st σ := v_callV C K hM he hc hR hst hn hcat hd hp k
theorem v_cSi (C : OK X Λ cc nL own fr lo) {idx n : Nat} {y : MethodName} {c2 : ByteArray} {n2 fr2 lo2 : Nat} {ret : Option FieldType} {As rest : List Value} {r : Int32} (K : KS own idx y c2 n2 ret n) (hM : CT (xl X) Λ y c2 n2 ret fr2 lo2 As σ (some (.int r)) σ2) (hR : fr2 + 1 ≤ fr ∧ 8 + (n2 + 11) + lo2 ≤ lo) (hst : st = As.reverse ++ rest) (hn : As.length = n) (hcat : (rest.map fun v => v.category).sum ≤ 8) (hd : decode cc pc = .ok (.invokestatic idx, 3)) (hp : pc2 = pc + 3) (k : VV X Λ nL pc2 lv (.int r :: rest) σ2) : VV X Λ nL pc lv st σ := v_callS C K hM hR hst hn hcat hd hp k
theorem v_cSl (C : OK X Λ cc nL own fr lo) {idx n : Nat} {y : MethodName} {c2 : ByteArray} {n2 fr2 lo2 : Nat} {ret : Option FieldType} {As rest : List Value} {r : Int64} (K : KS own idx y c2 n2 ret n) (hM : CT (xl X) Λ y c2 n2 ret fr2 lo2 As σ (some (.long r)) σ2) (hR : fr2 + 1 ≤ fr ∧ 8 + (n2 + 11) + lo2 ≤ lo) (hst : st = As.reverse ++ rest) (hn : As.length = n) (hcat : (rest.map fun v => v.category).sum ≤ 8) (hd : decode cc pc = .ok (.invokestatic idx, 3)) (hp : pc2 = pc + 3) (k : VV X Λ nL pc2 lv (.long r :: rest) σ2) : VV X Λ nL pc lv st σ := v_callS C K hM hR hst hn hcat hd hp k
theorem v_cSv (C : OK X Λ cc nL own fr lo) {idx n : Nat} {y : MethodName} {c2 : ByteArray} {n2 fr2 lo2 : Nat} {ret : Option FieldType} {As rest : List Value} (K : KS own idx y c2 n2 ret n) (hM : CT (xl X) Λ y c2 n2 ret fr2 lo2 As σ none σ2) (hR : fr2 + 1 ≤ fr ∧ 8 + (n2 + 11) + lo2 ≤ lo) (hst : st = As.reverse ++ rest) (hn : As.length = n) (hcat : (rest.map fun v => v.category).sum ≤ 8) (hd : decode cc pc = .ok (.invokestatic idx, 3)) (hp : pc2 = pc + 3) (k : VV X Λ nL pc2 lv (rest) σ2) : VV X Λ nL pc lv st σ := v_callS C K hM hR hst hn hcat hd hp k
theorem v_cNi (C : OK X Λ cc nL own fr lo) {idx n : Nat} {y : MethodName} {c2 : ByteArray} {n2 fr2 lo2 : Nat} {ret : Option FieldType} {As rest : List Value} {r : Int32} (K : KN own idx y c2 n2 ret n) (hM : CT (xl X) Λ y c2 n2 ret fr2 lo2 As σ (some (.int r)) σ2) (hR : fr2 + 1 ≤ fr ∧ 8 + (n2 + 11) + lo2 ≤ lo) (hst : st = As.reverse ++ rest) (hn : As.length = n) (hcat : (rest.map fun v => v.category).sum ≤ 8) (hd : decode cc pc = .ok (.invokestatic idx, 3)) (hp : pc2 = pc + 3) (k : VV X Λ nL pc2 lv (.int r :: rest) σ2) : VV X Λ nL pc lv st σ := v_callN C K hM hR hst hn hcat hd hp k
theorem v_cNl (C : OK X Λ cc nL own fr lo) {idx n : Nat} {y : MethodName} {c2 : ByteArray} {n2 fr2 lo2 : Nat} {ret : Option FieldType} {As rest : List Value} {r : Int64} (K : KN own idx y c2 n2 ret n) (hM : CT (xl X) Λ y c2 n2 ret fr2 lo2 As σ (some (.long r)) σ2) (hR : fr2 + 1 ≤ fr ∧ 8 + (n2 + 11) + lo2 ≤ lo) (hst : st = As.reverse ++ rest) (hn : As.length = n) (hcat : (rest.map fun v => v.category).sum ≤ 8) (hd : decode cc pc = .ok (.invokestatic idx, 3)) (hp : pc2 = pc + 3) (k : VV X Λ nL pc2 lv (.long r :: rest) σ2) : VV X Λ nL pc lv st σ := v_callN C K hM hR hst hn hcat hd hp k
theorem v_cNv (C : OK X Λ cc nL own fr lo) {idx n : Nat} {y : MethodName} {c2 : ByteArray} {n2 fr2 lo2 : Nat} {ret : Option FieldType} {As rest : List Value} (K : KN own idx y c2 n2 ret n) (hM : CT (xl X) Λ y c2 n2 ret fr2 lo2 As σ none σ2) (hR : fr2 + 1 ≤ fr ∧ 8 + (n2 + 11) + lo2 ≤ lo) (hst : st = As.reverse ++ rest) (hn : As.length = n) (hcat : (rest.map fun v => v.category).sum ≤ 8) (hd : decode cc pc = .ok (.invokestatic idx, 3)) (hp : pc2 = pc + 3) (k : VV X Λ nL pc2 lv (rest) σ2) : VV X Λ nL pc lv st σ := v_callN C K hM hR hst hn hcat hd hp k
theorem v_tabI (C : OK X Λ cc nL own fr lo) {dflt hi : Int} {offs : Array Int} {len j : Nat} {x v : Int32} {off : Int} (hd : decode cc pc = .ok (.tableswitch dflt 0 hi offs, len)) (h : x = v) (hv : v.toInt = (j : Int)) (hj : (j : Int) ≤ hi) (ho : offs[j]? = some off) (ht : (pc : Int) + off = (pc2 : Int)) (k : VV X Λ nL pc2 lv st σ) : VV X Λ nL pc lv (.int x :: st) σ := by
  intro ls H locs hl hP hS
  subst h
  exact lv_tableIn C.1 C.2.1 hd (by rw [hv]; omega) (by rw [hv]; omega) (by rw [hv]; simpa using ho) ht (k ls H locs hl hP hS)
theorem v_tabO (C : OK X Λ cc nL own fr lo) {dflt hi : Int} {offs : Array Int} {len : Nat} {x : Int32} (hd : decode cc pc = .ok (.tableswitch dflt 0 hi offs, len)) (h : x.toInt < 0 ∨ hi < x.toInt) (ht : (pc : Int) + dflt = (pc2 : Int)) (k : VV X Λ nL pc2 lv st σ) : VV X Λ nL pc lv (.int x :: st) σ := by
  intro ls H locs hl hP hS
  exact lv_tableOut C.1 C.2.1 hd h ht (k ls H locs hl hP hS)
end FLD
theorem i_le {a b : Int32} : a ≤ b ↔ a.toInt ≤ b.toInt := Int32.le_iff_toInt_le
theorem i_lt {a b : Int32} : a < b ↔ a.toInt < b.toInt := Int32.lt_iff_toInt_lt
theorem i_eq {a b : Int32} : a = b ↔ a.toInt = b.toInt := Int32.toInt_inj.symm
theorem t_le {a b : Int32} {m n : Int} (h : a ≤ b) (ha : a.toInt = m) (hb : b.toInt = n) : m ≤ n := by rw [i_le] at h; omega
theorem t_nle {a b : Int32} {m n : Int} (h : ¬ a ≤ b) (ha : a.toInt = m) (hb : b.toInt = n) : n < m := by rw [i_le] at h; omega
theorem t_lt {a b : Int32} {m n : Int} (h : a < b) (ha : a.toInt = m) (hb : b.toInt = n) : m < n := by rw [i_lt] at h; omega
theorem t_nlt {a b : Int32} {m n : Int} (h : ¬ a < b) (ha : a.toInt = m) (hb : b.toInt = n) : n ≤ m := by rw [i_lt] at h; omega
theorem t_eq {a b : Int32} {m n : Int} (h : a = b) (ha : a.toInt = m) (hb : b.toInt = n) : m = n := by rw [i_eq] at h; omega
theorem t_neq {a b : Int32} {m n : Int} (h : ¬ a = b) (ha : a.toInt = m) (hb : b.toInt = n) : ¬ m = n := by rw [i_eq] at h; omega
theorem vin {i : Int32} {n : Nat} (h0 : 0 ≤ i.toInt) (h1 : i.toInt < n) : vp_in i n := vp_in_iff.mpr ⟨h0, h1⟩
theorem vlt {i : Int32} {n : Nat} (h : vp_in i n) : i.toNatClampNeg < n := Nat.not_le.mp fun q => h (Or.inr q)
theorem kb_m12 : (Int8.ofInt (-12)).toInt32 = (-12 : Int32) := by decide +kernel
theorem kb_6 : (Int8.ofInt (6)).toInt32 = (6 : Int32) := by decide +kernel
theorem kb_7 : (Int8.ofInt (7)).toInt32 = (7 : Int32) := by decide +kernel
theorem kb_8 : (Int8.ofInt (8)).toInt32 = (8 : Int32) := by decide +kernel
theorem kb_10 : (Int8.ofInt (10)).toInt32 = (10 : Int32) := by decide +kernel
theorem kb_12 : (Int8.ofInt (12)).toInt32 = (12 : Int32) := by decide +kernel
theorem kb_16 : (Int8.ofInt (16)).toInt32 = (16 : Int32) := by decide +kernel
theorem kb_23 : (Int8.ofInt (23)).toInt32 = (23 : Int32) := by decide +kernel
theorem kb_24 : (Int8.ofInt (24)).toInt32 = (24 : Int32) := by decide +kernel
theorem kb_31 : (Int8.ofInt (31)).toInt32 = (31 : Int32) := by decide +kernel
theorem kb_48 : (Int8.ofInt (48)).toInt32 = (48 : Int32) := by decide +kernel
theorem kb_50 : (Int8.ofInt (50)).toInt32 = (50 : Int32) := by decide +kernel
theorem kb_63 : (Int8.ofInt (63)).toInt32 = (63 : Int32) := by decide +kernel
theorem kb_72 : (Int8.ofInt (72)).toInt32 = (72 : Int32) := by decide +kernel
theorem kb_99 : (Int8.ofInt (99)).toInt32 = (99 : Int32) := by decide +kernel
theorem kb_100 : (Int8.ofInt (100)).toInt32 = (100 : Int32) := by decide +kernel
theorem ki_m1 : Int32.ofInt (-1) = (-1 : Int32) := by decide +kernel
theorem ki_0 : Int32.ofInt (0) = (0 : Int32) := by decide +kernel
theorem ki_1 : Int32.ofInt (1) = (1 : Int32) := by decide +kernel
theorem ki_2 : Int32.ofInt (2) = (2 : Int32) := by decide +kernel
theorem ki_3 : Int32.ofInt (3) = (3 : Int32) := by decide +kernel
theorem ki_4 : Int32.ofInt (4) = (4 : Int32) := by decide +kernel
theorem ki_5 : Int32.ofInt (5) = (5 : Int32) := by decide +kernel
theorem ki_6 : Int32.ofInt (6) = (6 : Int32) := by decide +kernel
theorem ks_m1000 : (Int16.ofInt (-1000)).toInt32 = (-1000 : Int32) := by decide +kernel
theorem ks_200 : (Int16.ofInt (200)).toInt32 = (200 : Int32) := by decide +kernel
theorem ks_400 : (Int16.ofInt (400)).toInt32 = (400 : Int32) := by decide +kernel
theorem ks_1000 : (Int16.ofInt (1000)).toInt32 = (1000 : Int32) := by decide +kernel
theorem ks_10000 : (Int16.ofInt (10000)).toInt32 = (10000 : Int32) := by decide +kernel
theorem lit_m1000000005 : (-1000000005 : Int32).toInt = -1000000005 := by decide +kernel
theorem lit_m1000000004 : (-1000000004 : Int32).toInt = -1000000004 := by decide +kernel
theorem lit_m1000000003 : (-1000000003 : Int32).toInt = -1000000003 := by decide +kernel
theorem lit_m1000000002 : (-1000000002 : Int32).toInt = -1000000002 := by decide +kernel
theorem lit_m1000000001 : (-1000000001 : Int32).toInt = -1000000001 := by decide +kernel
theorem lit_m1000000000 : (-1000000000 : Int32).toInt = -1000000000 := by decide +kernel
theorem lit_m1000 : (-1000 : Int32).toInt = -1000 := by decide +kernel
theorem lit_m12 : (-12 : Int32).toInt = -12 := by decide +kernel
theorem lit_m1 : (-1 : Int32).toInt = -1 := by decide +kernel
theorem lit_0 : (0 : Int32).toInt = 0 := by decide +kernel
theorem lit_1 : (1 : Int32).toInt = 1 := by decide +kernel
theorem lit_2 : (2 : Int32).toInt = 2 := by decide +kernel
theorem lit_3 : (3 : Int32).toInt = 3 := by decide +kernel
theorem lit_4 : (4 : Int32).toInt = 4 := by decide +kernel
theorem lit_5 : (5 : Int32).toInt = 5 := by decide +kernel
theorem lit_6 : (6 : Int32).toInt = 6 := by decide +kernel
theorem lit_7 : (7 : Int32).toInt = 7 := by decide +kernel
theorem lit_8 : (8 : Int32).toInt = 8 := by decide +kernel
theorem lit_10 : (10 : Int32).toInt = 10 := by decide +kernel
theorem lit_12 : (12 : Int32).toInt = 12 := by decide +kernel
theorem lit_16 : (16 : Int32).toInt = 16 := by decide +kernel
theorem lit_23 : (23 : Int32).toInt = 23 := by decide +kernel
theorem lit_24 : (24 : Int32).toInt = 24 := by decide +kernel
theorem lit_31 : (31 : Int32).toInt = 31 := by decide +kernel
theorem lit_48 : (48 : Int32).toInt = 48 := by decide +kernel
theorem lit_50 : (50 : Int32).toInt = 50 := by decide +kernel
theorem lit_63 : (63 : Int32).toInt = 63 := by decide +kernel
theorem lit_72 : (72 : Int32).toInt = 72 := by decide +kernel
theorem lit_99 : (99 : Int32).toInt = 99 := by decide +kernel
theorem lit_100 : (100 : Int32).toInt = 100 := by decide +kernel
theorem lit_200 : (200 : Int32).toInt = 200 := by decide +kernel
theorem lit_400 : (400 : Int32).toInt = 400 := by decide +kernel
theorem lit_1000 : (1000 : Int32).toInt = 1000 := by decide +kernel
theorem lit_10000 : (10000 : Int32).toInt = 10000 := by decide +kernel
theorem lit_1000000 : (1000000 : Int32).toInt = 1000000 := by decide +kernel
theorem lit_252645135 : (252645135 : Int32).toInt = 252645135 := by decide +kernel
theorem lit_858993459 : (858993459 : Int32).toInt = 858993459 := by decide +kernel
theorem lit_1431655765 : (1431655765 : Int32).toInt = 1431655765 := by decide +kernel
theorem kl_0 : Int64.ofNat ((0 : Fin 2) : Nat) = (0 : Int64) := by decide +kernel
theorem kl_1 : Int64.ofNat ((1 : Fin 2) : Nat) = (1 : Int64) := by decide +kernel
set_option maxRecDepth 100000 in
theorem lf_X2_9 : Cond.fieldLink RX2 9 RX2 "start" "[J" ∈ wsG := wm 36 rfl rfl
set_option maxRecDepth 100000 in
theorem lf_X2_15 : Cond.fieldLink RX2 15 RX2 "end" "[J" ∈ wsG := wm 37 rfl rfl
set_option maxRecDepth 100000 in
theorem lf_X2_18 : Cond.fieldLink RX2 18 RX2 "from" "[J" ∈ wsG := wm 38 rfl rfl
set_option maxRecDepth 100000 in
theorem lf_X2_21 : Cond.fieldLink RX2 21 RX2 "to" "[J" ∈ wsG := wm 39 rfl rfl
set_option maxRecDepth 100000 in
theorem lf_X2_58 : Cond.fieldLink RX2 58 RX2 "pieces" "I" ∈ wsG := wm 40 rfl rfl
set_option maxRecDepth 100000 in
theorem lf_X3_15 : Cond.fieldLink RX3 15 RX3 "kind" "I" ∈ wsG := wm 58 rfl rfl
set_option maxRecDepth 100000 in
theorem lf_X9_107 : Cond.fieldLink RX9 107 RX3 "kind" "I" ∈ wsG := wm 59 rfl rfl
set_option maxRecDepth 100000 in
theorem lf_X0_64 : Cond.fieldLink RX0 64 RX3 "kind" "I" ∈ wsG := wm 60 rfl rfl
set_option maxRecDepth 100000 in
theorem lf_X3_18 : Cond.fieldLink RX3 18 RX3 "place" "I" ∈ wsG := wm 61 rfl rfl
set_option maxRecDepth 100000 in
theorem lf_X0_43 : Cond.fieldLink RX0 43 RX3 "place" "I" ∈ wsG := wm 62 rfl rfl
set_option maxRecDepth 100000 in
theorem lf_X2_39 : Cond.fieldLink RX2 39 RX3 "place" "I" ∈ wsG := wm 63 rfl rfl
set_option maxRecDepth 100000 in
theorem lf_X9_110 : Cond.fieldLink RX9 110 RX3 "place" "I" ∈ wsG := wm 64 rfl rfl
set_option maxRecDepth 100000 in
theorem lf_X3_21 : Cond.fieldLink RX3 21 RX3 "height" "I" ∈ wsG := wm 65 rfl rfl
set_option maxRecDepth 100000 in
theorem lf_X2_45 : Cond.fieldLink RX2 45 RX3 "height" "I" ∈ wsG := wm 66 rfl rfl
set_option maxRecDepth 100000 in
theorem lf_X9_113 : Cond.fieldLink RX9 113 RX3 "height" "I" ∈ wsG := wm 67 rfl rfl
set_option maxRecDepth 100000 in
theorem lf_X3_24 : Cond.fieldLink RX3 24 RX3 "width" "I" ∈ wsG := wm 68 rfl rfl
set_option maxRecDepth 100000 in
theorem lf_X2_48 : Cond.fieldLink RX2 48 RX3 "width" "I" ∈ wsG := wm 69 rfl rfl
set_option maxRecDepth 100000 in
theorem lf_X7_41 : Cond.fieldLink RX7 41 RX3 "width" "I" ∈ wsG := wm 70 rfl rfl
set_option maxRecDepth 100000 in
theorem lf_X9_116 : Cond.fieldLink RX9 116 RX3 "width" "I" ∈ wsG := wm 71 rfl rfl
set_option maxRecDepth 100000 in
theorem lf_X3_27 : Cond.fieldLink RX3 27 RX3 "dirt" "I" ∈ wsG := wm 72 rfl rfl
set_option maxRecDepth 100000 in
theorem lf_X7_36 : Cond.fieldLink RX7 36 RX3 "dirt" "I" ∈ wsG := wm 73 rfl rfl
set_option maxRecDepth 100000 in
theorem lf_X9_119 : Cond.fieldLink RX9 119 RX3 "dirt" "I" ∈ wsG := wm 74 rfl rfl
set_option maxRecDepth 100000 in
theorem lf_X0_112 : Cond.fieldLink RX0 112 RX3 "dirt" "I" ∈ wsG := wm 75 rfl rfl
set_option maxRecDepth 100000 in
theorem lf_X3_30 : Cond.fieldLink RX3 30 RX3 "step" "I" ∈ wsG := wm 76 rfl rfl
set_option maxRecDepth 100000 in
theorem lf_X9_122 : Cond.fieldLink RX9 122 RX3 "step" "I" ∈ wsG := wm 77 rfl rfl
set_option maxRecDepth 100000 in
theorem lf_X0_67 : Cond.fieldLink RX0 67 RX3 "step" "I" ∈ wsG := wm 78 rfl rfl
set_option maxRecDepth 100000 in
theorem lf_X3_9 : Cond.fieldLink RX3 9 RX3 "inString" "I" ∈ wsG := wm 79 rfl rfl
set_option maxRecDepth 100000 in
theorem lf_X5_32 : Cond.fieldLink RX5 32 RX3 "inString" "I" ∈ wsG := wm 80 rfl rfl
set_option maxRecDepth 100000 in
theorem lf_X9_125 : Cond.fieldLink RX9 125 RX3 "inString" "I" ∈ wsG := wm 81 rfl rfl
set_option maxRecDepth 100000 in
theorem lf_X0_11 : Cond.fieldLink RX0 11 RX0 "rows" "[LSunRows$Row;" ∈ wsG := wm 98 rfl rfl
set_option maxRecDepth 100000 in
theorem lf_X5_28 : Cond.fieldLink RX5 28 RX0 "rows" "[LSunRows$Row;" ∈ wsG := wm 99 rfl rfl
set_option maxRecDepth 100000 in
theorem lf_X7_22 : Cond.fieldLink RX7 22 RX0 "rows" "[LSunRows$Row;" ∈ wsG := wm 100 rfl rfl
set_option maxRecDepth 100000 in
theorem lf_X9_93 : Cond.fieldLink RX9 93 RX0 "rows" "[LSunRows$Row;" ∈ wsG := wm 101 rfl rfl
set_option maxRecDepth 100000 in
theorem lf_X0_20 : Cond.fieldLink RX0 20 RX0 "looks" "LSunRows$Looks;" ∈ wsG := wm 102 rfl rfl
set_option maxRecDepth 100000 in
theorem lf_X5_50 : Cond.fieldLink RX5 50 RX0 "looks" "LSunRows$Looks;" ∈ wsG := wm 103 rfl rfl
set_option maxRecDepth 100000 in
theorem lf_X9_174 : Cond.fieldLink RX9 174 RX0 "looks" "LSunRows$Looks;" ∈ wsG := wm 104 rfl rfl
set_option maxRecDepth 100000 in
theorem lf_X0_24 : Cond.fieldLink RX0 24 RX0 "unshaded" "[J" ∈ wsG := wm 105 rfl rfl
set_option maxRecDepth 100000 in
theorem lf_X5_74 : Cond.fieldLink RX5 74 RX0 "unshaded" "[J" ∈ wsG := wm 106 rfl rfl
set_option maxRecDepth 100000 in
theorem lf_X0_28 : Cond.fieldLink RX0 28 RX0 "taken" "[J" ∈ wsG := wm 107 rfl rfl
set_option maxRecDepth 100000 in
theorem lf_X5_77 : Cond.fieldLink RX5 77 RX0 "taken" "[J" ∈ wsG := wm 108 rfl rfl
set_option maxRecDepth 100000 in
theorem lf_X0_31 : Cond.fieldLink RX0 31 RX0 "currents" "[I" ∈ wsG := wm 109 rfl rfl
set_option maxRecDepth 100000 in
theorem lf_X5_37 : Cond.fieldLink RX5 37 RX0 "currents" "[I" ∈ wsG := wm 110 rfl rfl
set_option maxRecDepth 100000 in
theorem lf_X9_207 : Cond.fieldLink RX9 207 RX0 "currents" "[I" ∈ wsG := wm 111 rfl rfl
set_option maxRecDepth 100000 in
theorem lf_X0_35 : Cond.fieldLink RX0 35 RX0 "count" "I" ∈ wsG := wm 112 rfl rfl
set_option maxRecDepth 100000 in
theorem lf_X5_23 : Cond.fieldLink RX5 23 RX0 "count" "I" ∈ wsG := wm 113 rfl rfl
set_option maxRecDepth 100000 in
theorem lf_X7_17 : Cond.fieldLink RX7 17 RX0 "count" "I" ∈ wsG := wm 114 rfl rfl
set_option maxRecDepth 100000 in
theorem lf_X9_89 : Cond.fieldLink RX9 89 RX0 "count" "I" ∈ wsG := wm 115 rfl rfl
set_option maxRecDepth 100000 in
theorem lf_X0_39 : Cond.fieldLink RX0 39 RX0 "sunX" "I" ∈ wsG := wm 116 rfl rfl
set_option maxRecDepth 100000 in
theorem lf_X4_9 : Cond.fieldLink RX4 9 RX4 "x" "[I" ∈ wsG := wm 138 rfl rfl
set_option maxRecDepth 100000 in
theorem lf_X9_154 : Cond.fieldLink RX9 154 RX4 "x" "[I" ∈ wsG := wm 139 rfl rfl
set_option maxRecDepth 100000 in
theorem lf_X4_15 : Cond.fieldLink RX4 15 RX4 "y" "[I" ∈ wsG := wm 140 rfl rfl
set_option maxRecDepth 100000 in
theorem lf_X9_157 : Cond.fieldLink RX9 157 RX4 "y" "[I" ∈ wsG := wm 141 rfl rfl
set_option maxRecDepth 100000 in
theorem lc_X5_22 : Cond.constant RX5 22 (1000000) ∈ wsG := wm 153 rfl rfl
set_option maxRecDepth 100000 in
theorem lf_X5_9 : Cond.fieldLink RX5 9 RX5 "ceilings" "[I" ∈ wsG := wm 154 rfl rfl
set_option maxRecDepth 100000 in
theorem lf_X9_201 : Cond.fieldLink RX9 201 RX5 "ceilings" "[I" ∈ wsG := wm 155 rfl rfl
set_option maxRecDepth 100000 in
theorem lf_X5_15 : Cond.fieldLink RX5 15 RX5 "ranked" "[I" ∈ wsG := wm 156 rfl rfl
set_option maxRecDepth 100000 in
theorem lf_X5_18 : Cond.fieldLink RX5 18 RX5 "members" "I" ∈ wsG := wm 157 rfl rfl
set_option maxRecDepth 100000 in
theorem lf_X8_9 : Cond.fieldLink RX8 9 RX8 "readings" "[I" ∈ wsG := wm 171 rfl rfl
set_option maxRecDepth 100000 in
theorem lf_X9_221 : Cond.fieldLink RX9 221 RX8 "readings" "[I" ∈ wsG := wm 172 rfl rfl
set_option maxRecDepth 100000 in
theorem lf_X8_15 : Cond.fieldLink RX8 15 RX8 "cleans" "[Z" ∈ wsG := wm 173 rfl rfl
set_option maxRecDepth 100000 in
theorem lf_X9_227 : Cond.fieldLink RX9 227 RX8 "cleans" "[Z" ∈ wsG := wm 174 rfl rfl
set_option maxRecDepth 100000 in
theorem lf_X8_19 : Cond.fieldLink RX8 19 RX8 "stowAt" "I" ∈ wsG := wm 175 rfl rfl
set_option maxRecDepth 100000 in
theorem lf_X9_224 : Cond.fieldLink RX9 224 RX8 "stowAt" "I" ∈ wsG := wm 176 rfl rfl
set_option maxRecDepth 100000 in
theorem lf_X8_23 : Cond.fieldLink RX8 23 RX8 "lostInARow" "I" ∈ wsG := wm 177 rfl rfl
set_option maxRecDepth 100000 in
theorem lf_X8_26 : Cond.fieldLink RX8 26 RX8 "isStowed" "Z" ∈ wsG := wm 178 rfl rfl
set_option maxRecDepth 100000 in
theorem lf_X1_9 : Cond.fieldLink RX1 9 RX1 "latest" "[J" ∈ wsG := wm 197 rfl rfl
set_option maxRecDepth 100000 in
theorem lf_X5_68 : Cond.fieldLink RX5 68 RX1 "latest" "[J" ∈ wsG := wm 198 rfl rfl
set_option maxRecDepth 100000 in
theorem lf_X9_237 : Cond.fieldLink RX9 237 RX1 "latest" "[J" ∈ wsG := wm 199 rfl rfl
set_option maxRecDepth 100000 in
theorem lf_X1_15 : Cond.fieldLink RX1 15 RX1 "sums" "[J" ∈ wsG := wm 200 rfl rfl
set_option maxRecDepth 100000 in
theorem lf_X9_248 : Cond.fieldLink RX9 248 RX1 "sums" "[J" ∈ wsG := wm 201 rfl rfl
set_option maxRecDepth 100000 in
theorem lf_X1_18 : Cond.fieldLink RX1 18 RX1 "isBegun" "Z" ∈ wsG := wm 202 rfl rfl
set_option maxRecDepth 100000 in
theorem lf_X9_241 : Cond.fieldLink RX9 241 RX1 "isBegun" "Z" ∈ wsG := wm 203 rfl rfl
set_option maxRecDepth 100000 in
theorem lf_X1_22 : Cond.fieldLink RX1 22 RX1 "state" "I" ∈ wsG := wm 204 rfl rfl
set_option maxRecDepth 100000 in
theorem lf_X9_234 : Cond.fieldLink RX9 234 RX1 "state" "I" ∈ wsG := wm 205 rfl rfl
set_option maxRecDepth 100000 in
theorem lf_X1_26 : Cond.fieldLink RX1 26 RX1 "whichHour" "I" ∈ wsG := wm 206 rfl rfl
set_option maxRecDepth 100000 in
theorem lf_X9_245 : Cond.fieldLink RX9 245 RX1 "whichHour" "I" ∈ wsG := wm 207 rfl rfl
set_option maxRecDepth 100000 in
theorem lf_X7_7 : Cond.fieldLink RX7 7 RX7 "bestSet" "I" ∈ wsG := wm 225 rfl rfl
set_option maxRecDepth 100000 in
theorem lf_X9_259 : Cond.fieldLink RX9 259 RX7 "bestSet" "I" ∈ wsG := wm 226 rfl rfl
set_option maxRecDepth 100000 in
theorem lf_X7_13 : Cond.fieldLink RX7 13 RX7 "bestValue" "J" ∈ wsG := wm 227 rfl rfl
set_option maxRecDepth 100000 in
theorem lf_X9_262 : Cond.fieldLink RX9 262 RX7 "bestValue" "J" ∈ wsG := wm 228 rfl rfl
set_option maxRecDepth 100000 in
theorem lf_X6_9 : Cond.fieldLink RX6 9 RX6 "numbers" "[I" ∈ wsG := wm 240 rfl rfl
set_option maxRecDepth 100000 in
theorem lf_X9_148 : Cond.fieldLink RX9 148 RX6 "numbers" "[I" ∈ wsG := wm 241 rfl rfl
set_option maxRecDepth 100000 in
theorem lf_X6_15 : Cond.fieldLink RX6 15 RX6 "size" "I" ∈ wsG := wm 242 rfl rfl
set_option maxRecDepth 100000 in
theorem lf_X9_142 : Cond.fieldLink RX9 142 RX6 "size" "I" ∈ wsG := wm 243 rfl rfl
set_option maxRecDepth 100000 in
theorem lf_X9_10 : Cond.fieldLink RX9 10 RX9 "field" "LSunRows$Field;" ∈ wsG := wm 249 rfl rfl
set_option maxRecDepth 100000 in
theorem lf_X9_19 : Cond.fieldLink RX9 19 RX9 "sky" "LSunRows$Sky;" ∈ wsG := wm 250 rfl rfl
set_option maxRecDepth 100000 in
theorem lf_X9_26 : Cond.fieldLink RX9 26 RX9 "strings" "LSunRows$Strings;" ∈ wsG := wm 251 rfl rfl
set_option maxRecDepth 100000 in
theorem lf_X9_33 : Cond.fieldLink RX9 33 RX9 "weather" "LSunRows$Weather;" ∈ wsG := wm 252 rfl rfl
set_option maxRecDepth 100000 in
theorem lf_X9_40 : Cond.fieldLink RX9 40 RX9 "ledger" "LSunRows$Ledger;" ∈ wsG := wm 253 rfl rfl
set_option maxRecDepth 100000 in
theorem lf_X9_47 : Cond.fieldLink RX9 47 RX9 "washing" "LSunRows$Washing;" ∈ wsG := wm 254 rfl rfl
set_option maxRecDepth 100000 in
theorem lf_X9_54 : Cond.fieldLink RX9 54 RX9 "tape" "LSunRows$Tape;" ∈ wsG := wm 255 rfl rfl
set_option maxRecDepth 100000 in
theorem lf_X9_58 : Cond.fieldLink RX9 58 RX9 "answered" "[I" ∈ wsG := wm 256 rfl rfl
set_option maxRecDepth 100000 in
theorem lf_X9_62 : Cond.fieldLink RX9 62 RX9 "nextHour" "I" ∈ wsG := wm 257 rfl rfl
set_option maxRecDepth 100000 in
theorem lf_X9_66 : Cond.fieldLink RX9 66 RX9 "latestTarget" "I" ∈ wsG := wm 258 rfl rfl
set_option maxRecDepth 100000 in
theorem lc_X9_80 : Cond.constant RX9 80 (-1000000001) ∈ wsG := wm 293 rfl rfl
set_option maxRecDepth 100000 in
theorem lc_X9_88 : Cond.constant RX9 88 (-1000000005) ∈ wsG := wm 302 rfl rfl
set_option maxRecDepth 100000 in
theorem lc_X9_92 : Cond.constant RX9 92 (-1000000004) ∈ wsG := wm 303 rfl rfl
set_option maxRecDepth 100000 in
theorem lc_X9_103 : Cond.constant RX9 103 (-1000000002) ∈ wsG := wm 312 rfl rfl
set_option maxRecDepth 100000 in
theorem lc_X9_131 : Cond.constant RX9 131 (-1000000003) ∈ wsG := wm 329 rfl rfl
set_option maxRecDepth 100000 in
theorem lc_X2_37 : Cond.constantLong RX2 37 (20000) ∈ wsG := wm 399 rfl rfl
set_option maxRecDepth 100000 in
theorem lc_X2_72 : Cond.constantLong RX2 72 (3) ∈ wsG := wm 483 rfl rfl
set_option maxRecDepth 100000 in
theorem lc_X9_200 : Cond.constant RX9 200 (1000000) ∈ wsG := wm 495 rfl rfl
set_option maxRecDepth 100000 in
theorem lc_J6_265 : Cond.constant RJ6 265 (1431655765) ∈ wsG := wm 509 rfl rfl
set_option maxRecDepth 100000 in
theorem lc_J6_266 : Cond.constant RJ6 266 (858993459) ∈ wsG := wm 510 rfl rfl
set_option maxRecDepth 100000 in
theorem lc_J6_267 : Cond.constant RJ6 267 (252645135) ∈ wsG := wm 511 rfl rfl
set_option maxRecDepth 100000 in
theorem lc_X0_110 : Cond.constantLong RX0 110 (3000000) ∈ wsG := wm 513 rfl rfl
set_option maxRecDepth 100000 in
theorem lc_X0_115 : Cond.constantLong RX0 115 (1000) ∈ wsG := wm 514 rfl rfl
set_option maxRecDepth 100000 in
theorem lc_X5_60 : Cond.constantLong RX5 60 (3) ∈ wsG := wm 583 rfl rfl
set_option maxRecDepth 100000 in
theorem lc_X5_66 : Cond.constantLong RX5 66 (3000000) ∈ wsG := wm 585 rfl rfl
set_option maxRecDepth 100000 in
theorem lc_X7_30 : Cond.constantLong RX7 30 (10) ∈ wsG := wm 635 rfl rfl
set_option maxRecDepth 100000 in
theorem lc_X10_70 : Cond.constant RX10 70 (1000000) ∈ wsG := wm 683 rfl rfl
set_option maxRecDepth 100000 in
theorem lf_X10_72 : Cond.fieldLink RX10 72 RX10 "rows" "I" ∈ wsG := wm 684 rfl rfl
set_option maxRecDepth 100000 in
theorem lf_X10_9 : Cond.fieldLink RX10 9 RX10 "kindOf" "[I" ∈ wsG := wm 685 rfl rfl
set_option maxRecDepth 100000 in
theorem lf_X10_13 : Cond.fieldLink RX10 13 RX10 "placeOf" "[I" ∈ wsG := wm 686 rfl rfl
set_option maxRecDepth 100000 in
theorem lf_X10_16 : Cond.fieldLink RX10 16 RX10 "heightOf" "[I" ∈ wsG := wm 687 rfl rfl
set_option maxRecDepth 100000 in
theorem lf_X10_19 : Cond.fieldLink RX10 19 RX10 "widthOf" "[I" ∈ wsG := wm 688 rfl rfl
set_option maxRecDepth 100000 in
theorem lf_X10_22 : Cond.fieldLink RX10 22 RX10 "dustOf" "[I" ∈ wsG := wm 689 rfl rfl
set_option maxRecDepth 100000 in
theorem lf_X10_25 : Cond.fieldLink RX10 25 RX10 "stepOf" "[I" ∈ wsG := wm 690 rfl rfl
set_option maxRecDepth 100000 in
theorem lf_X10_28 : Cond.fieldLink RX10 28 RX10 "stringOf" "[I" ∈ wsG := wm 691 rfl rfl
set_option maxRecDepth 100000 in
theorem lf_X10_31 : Cond.fieldLink RX10 31 RX10 "sunX" "[I" ∈ wsG := wm 692 rfl rfl
set_option maxRecDepth 100000 in
theorem lf_X10_34 : Cond.fieldLink RX10 34 RX10 "sunY" "[I" ∈ wsG := wm 693 rfl rfl
set_option maxRecDepth 100000 in
theorem lf_X10_37 : Cond.fieldLink RX10 37 RX10 "windOf" "[I" ∈ wsG := wm 694 rfl rfl
set_option maxRecDepth 100000 in
theorem lf_X10_40 : Cond.fieldLink RX10 40 RX10 "cleans" "[Z" ∈ wsG := wm 695 rfl rfl
set_option maxRecDepth 100000 in
theorem lf_X10_44 : Cond.fieldLink RX10 44 RX10 "ceilings" "[I" ∈ wsG := wm 696 rfl rfl
set_option maxRecDepth 100000 in
theorem lf_X10_47 : Cond.fieldLink RX10 47 RX10 "limit" "I" ∈ wsG := wm 697 rfl rfl
set_option maxRecDepth 100000 in
theorem lf_X10_239 : Cond.fieldLink RX10 239 RX10 "nextHour" "I" ∈ wsG := wm 698 rfl rfl
set_option maxRecDepth 100000 in
theorem lf_X10_223 : Cond.fieldLink RX10 223 RX10 "state" "I" ∈ wsG := wm 699 rfl rfl
set_option maxRecDepth 100000 in
theorem lf_X10_220 : Cond.fieldLink RX10 220 RX10 "lostRow" "I" ∈ wsG := wm 700 rfl rfl
set_option maxRecDepth 100000 in
theorem lf_X10_229 : Cond.fieldLink RX10 229 RX10 "went" "Z" ∈ wsG := wm 701 rfl rfl
set_option maxRecDepth 100000 in
theorem lf_X10_236 : Cond.fieldLink RX10 236 RX10 "lastStep" "I" ∈ wsG := wm 702 rfl rfl
set_option maxRecDepth 100000 in
theorem lf_X10_233 : Cond.fieldLink RX10 233 RX10 "lastState" "I" ∈ wsG := wm 703 rfl rfl
set_option maxRecDepth 100000 in
theorem lf_X10_51 : Cond.fieldLink RX10 51 RX10 "book" "[J" ∈ wsG := wm 704 rfl rfl
set_option maxRecDepth 100000 in
theorem lf_X10_55 : Cond.fieldLink RX10 55 RX10 "all" "[J" ∈ wsG := wm 705 rfl rfl
set_option maxRecDepth 100000 in
theorem lf_X10_141 : Cond.fieldLink RX10 141 RX10 "taped" "I" ∈ wsG := wm 706 rfl rfl
set_option maxRecDepth 100000 in
theorem lf_X10_58 : Cond.fieldLink RX10 58 RX10 "tape" "[I" ∈ wsG := wm 707 rfl rfl
set_option maxRecDepth 100000 in
theorem lf_X10_61 : Cond.fieldLink RX10 61 RX10 "findings" "[I" ∈ wsG := wm 708 rfl rfl
set_option maxRecDepth 100000 in
theorem lf_X10_64 : Cond.fieldLink RX10 64 RX10 "tried" "I" ∈ wsG := wm 709 rfl rfl
set_option maxRecDepth 100000 in
theorem lf_X10_67 : Cond.fieldLink RX10 67 RX10 "currents" "[J" ∈ wsG := wm 710 rfl rfl
set_option maxRecDepth 100000 in
theorem lf_X10_256 : Cond.fieldLink RX10 256 RX10 "bestSet" "I" ∈ wsG := wm 711 rfl rfl
set_option maxRecDepth 100000 in
theorem lc_X10_119 : Cond.constant RX10 119 (-1000000001) ∈ wsG := wm 779 rfl rfl
set_option maxRecDepth 100000 in
theorem lc_X10_71 : Cond.constant RX10 71 (-1000000000) ∈ wsG := wm 784 rfl rfl
set_option maxRecDepth 100000 in
theorem lc_X10_124 : Cond.constant RX10 124 (-1000000005) ∈ wsG := wm 785 rfl rfl
set_option maxRecDepth 100000 in
theorem lc_X10_125 : Cond.constant RX10 125 (-1000000004) ∈ wsG := wm 786 rfl rfl
set_option maxRecDepth 100000 in
theorem lc_X10_126 : Cond.constant RX10 126 (-1000000002) ∈ wsG := wm 791 rfl rfl
set_option maxRecDepth 100000 in
theorem lc_X10_130 : Cond.constant RX10 130 (-1000000003) ∈ wsG := wm 804 rfl rfl
set_option maxRecDepth 100000 in
theorem lc_X10_79 : Cond.constantLong RX10 79 (10000) ∈ wsG := wm 846 rfl rfl
set_option maxRecDepth 100000 in
theorem lc_X10_81 : Cond.constantLong RX10 81 (9962) ∈ wsG := wm 847 rfl rfl
set_option maxRecDepth 100000 in
theorem lc_X10_83 : Cond.constantLong RX10 83 (9848) ∈ wsG := wm 848 rfl rfl
set_option maxRecDepth 100000 in
theorem lc_X10_85 : Cond.constantLong RX10 85 (9659) ∈ wsG := wm 849 rfl rfl
set_option maxRecDepth 100000 in
theorem lc_X10_87 : Cond.constantLong RX10 87 (9397) ∈ wsG := wm 850 rfl rfl
set_option maxRecDepth 100000 in
theorem lc_X10_89 : Cond.constantLong RX10 89 (9063) ∈ wsG := wm 851 rfl rfl
set_option maxRecDepth 100000 in
theorem lc_X10_91 : Cond.constantLong RX10 91 (8660) ∈ wsG := wm 852 rfl rfl
set_option maxRecDepth 100000 in
theorem lc_X10_93 : Cond.constantLong RX10 93 (8192) ∈ wsG := wm 853 rfl rfl
set_option maxRecDepth 100000 in
theorem lc_X10_95 : Cond.constantLong RX10 95 (7660) ∈ wsG := wm 854 rfl rfl
set_option maxRecDepth 100000 in
theorem lc_X10_97 : Cond.constantLong RX10 97 (7071) ∈ wsG := wm 855 rfl rfl
set_option maxRecDepth 100000 in
theorem lc_X10_99 : Cond.constantLong RX10 99 (6428) ∈ wsG := wm 856 rfl rfl
set_option maxRecDepth 100000 in
theorem lc_X10_101 : Cond.constantLong RX10 101 (5736) ∈ wsG := wm 857 rfl rfl
set_option maxRecDepth 100000 in
theorem lc_X10_103 : Cond.constantLong RX10 103 (5000) ∈ wsG := wm 858 rfl rfl
set_option maxRecDepth 100000 in
theorem lc_X10_105 : Cond.constantLong RX10 105 (872) ∈ wsG := wm 862 rfl rfl
set_option maxRecDepth 100000 in
theorem lc_X10_107 : Cond.constantLong RX10 107 (1736) ∈ wsG := wm 863 rfl rfl
set_option maxRecDepth 100000 in
theorem lc_X10_109 : Cond.constantLong RX10 109 (2588) ∈ wsG := wm 864 rfl rfl
set_option maxRecDepth 100000 in
theorem lc_X10_111 : Cond.constantLong RX10 111 (3420) ∈ wsG := wm 865 rfl rfl
set_option maxRecDepth 100000 in
theorem lc_X10_113 : Cond.constantLong RX10 113 (4226) ∈ wsG := wm 866 rfl rfl
set_option maxRecDepth 100000 in
theorem lc_X10_147 : Cond.constantLong RX10 147 (-1) ∈ wsG := wm 891 rfl rfl
set_option maxRecDepth 100000 in
theorem lc_X10_149 : Cond.constantLong RX10 149 (20000) ∈ wsG := wm 892 rfl rfl
set_option maxRecDepth 100000 in
theorem lc_X10_165 : Cond.constantLong RX10 165 (3) ∈ wsG := wm 897 rfl rfl
set_option maxRecDepth 100000 in
theorem lc_X10_204 : Cond.constantLong RX10 204 (3000000) ∈ wsG := wm 953 rfl rfl
set_option maxRecDepth 100000 in
theorem lc_X10_209 : Cond.constantLong RX10 209 (1000) ∈ wsG := wm 958 rfl rfl
set_option maxRecDepth 100000 in
theorem lc_X10_259 : Cond.constantLong RX10 259 (10) ∈ wsG := wm 1027 rfl rfl
set_option maxRecDepth 100000 in
theorem mi_Math : Cond.initialized "java/lang/Math" ∈ wsG := wm 12 rfl rfl
set_option maxRecDepth 100000 in
theorem ms_mabs : Cond.static Lib.Math.abs.name ∈ wsG := wm 396 rfl rfl
set_option maxRecDepth 100000 in
theorem mc_mabs : Cond.code Lib.Math.abs.name Lib.Math.abs.code 1 (some .int) ∈ wsG := wm 397 rfl rfl
set_option maxRecDepth 100000 in
theorem ms_mmax : Cond.static Lib.Math.max.name ∈ wsG := wm 537 rfl rfl
set_option maxRecDepth 100000 in
theorem mc_mmax : Cond.code Lib.Math.max.name Lib.Math.max.code 2 (some .int) ∈ wsG := wm 538 rfl rfl
set_option maxRecDepth 100000 in
theorem ms_mmin : Cond.static Lib.Math.min.name ∈ wsG := wm 564 rfl rfl
set_option maxRecDepth 100000 in
theorem mc_mmin : Cond.code Lib.Math.min.name Lib.Math.min.code 2 (some .int) ∈ wsG := wm 565 rfl rfl
set_option maxRecDepth 100000 in
theorem ms_lmax : Cond.static Lib.MathLoose.max_long.x ∈ wsG := wm 424 rfl rfl
set_option maxRecDepth 100000 in
theorem mc_lmax : Cond.code Lib.MathLoose.max_long.x Lib.MathLoose.max_long.code 4 (some .long) ∈ wsG := wm 425 rfl rfl
set_option maxRecDepth 100000 in
theorem ms_lmin : Cond.static Lib.MathLoose.min_long.x ∈ wsG := wm 421 rfl rfl
set_option maxRecDepth 100000 in
theorem mc_lmin : Cond.code Lib.MathLoose.min_long.x Lib.MathLoose.min_long.code 4 (some .long) ∈ wsG := wm 422 rfl rfl
set_option maxRecDepth 100000 in
theorem kc_L_13 : KV RL 13 RX9 yX9_row cX9_row 7 (some .int) 5 := KV.mk (wm 280 rfl rfl) (wm 281 rfl rfl) (wm 282 rfl rfl) (wm 1 rfl rfl) (wm 283 rfl rfl) (by decide +kernel)
set_option maxRecDepth 100000 in
theorem kc_X9_69 : KS RX9 69 yX9_isKind cX9_isKind 1 (some .boolean) 1 := KS.mk (wm 284 rfl rfl) (wm 285 rfl rfl) (wm 1 rfl rfl) (wm 286 rfl rfl) (by decide +kernel)
set_option maxRecDepth 100000 in
theorem kc_X9_73 : KS RX9 73 yX9_isWithin cX9_isWithin 3 (some .boolean) 3 := KS.mk (wm 287 rfl rfl) (wm 288 rfl rfl) (wm 1 rfl rfl) (wm 289 rfl rfl) (by decide +kernel)
set_option maxRecDepth 100000 in
theorem kc_X9_77 : KS RX9 77 yX9_isStep cX9_isStep 1 (some .boolean) 1 := KS.mk (wm 290 rfl rfl) (wm 291 rfl rfl) (wm 1 rfl rfl) (wm 292 rfl rfl) (by decide +kernel)
set_option maxRecDepth 100000 in
theorem kc_X9_81 : KV RX9 81 RX9 yX9_answer cX9_answer 2 (some .int) 1 := KV.mk (wm 294 rfl rfl) (wm 296 rfl rfl) (wmS 0 rfl rfl) (wm 1 rfl rfl) (wm 297 rfl rfl) (by decide +kernel)
set_option maxRecDepth 100000 in
theorem kc_X9_85 : KV RX9 85 RX0 yX0_isAboveLast cX0_isAboveLast 2 (some .boolean) 1 := KV.mk (wm 298 rfl rfl) (wm 299 rfl rfl) (wm 300 rfl rfl) (wm 2 rfl rfl) (wm 301 rfl rfl) (by decide +kernel)
set_option maxRecDepth 100000 in
theorem kc_X9_97 : KV RX9 97 RX3 yX3_begin cX3_begin 6 none 5 := KV.mk (wm 304 rfl rfl) (wm 305 rfl rfl) (wm 306 rfl rfl) (wm 4 rfl rfl) (wm 307 rfl rfl) (by decide +kernel)
set_option maxRecDepth 100000 in
theorem kc_L_18 : KV RL 18 RX9 yX9_drop cX9_drop 1 (some .int) 0 := KV.mk (wm 308 rfl rfl) (wm 309 rfl rfl) (wm 310 rfl rfl) (wm 1 rfl rfl) (wm 311 rfl rfl) (by decide +kernel)
set_option maxRecDepth 100000 in
theorem kc_L_23 : KV RL 23 RX9 yX9_about cX9_about 4 (some .int) 2 := KV.mk (wm 313 rfl rfl) (wm 314 rfl rfl) (wm 315 rfl rfl) (wm 1 rfl rfl) (wm 316 rfl rfl) (by decide +kernel)
set_option maxRecDepth 100000 in
theorem kc_X9_104 : KV RX9 104 RX9 yX9_isRow cX9_isRow 2 (some .boolean) 1 := KV.mk (wm 317 rfl rfl) (wm 319 rfl rfl) (wmS 1 rfl rfl) (wm 1 rfl rfl) (wm 320 rfl rfl) (by decide +kernel)
set_option maxRecDepth 100000 in
theorem kc_L_28 : KV RL 28 RX9 yX9_as cX9_as 4 (some .int) 2 := KV.mk (wm 321 rfl rfl) (wm 322 rfl rfl) (wm 323 rfl rfl) (wm 1 rfl rfl) (wm 324 rfl rfl) (by decide +kernel)
set_option maxRecDepth 100000 in
theorem kc_X9_128 : KV RX9 128 RX3 yX3_isOf cX3_isOf 2 (some .boolean) 1 := KV.mk (wm 325 rfl rfl) (wm 326 rfl rfl) (wm 327 rfl rfl) (wm 4 rfl rfl) (wm 328 rfl rfl) (by decide +kernel)
set_option maxRecDepth 100000 in
theorem kc_L_32 : KV RL 32 RX9 yX9_turn cX9_turn 5 (some .int) 2 := KV.mk (wm 330 rfl rfl) (wm 331 rfl rfl) (wm 332 rfl rfl) (wm 1 rfl rfl) (wm 333 rfl rfl) (by decide +kernel)
set_option maxRecDepth 100000 in
theorem kc_L_36 : KV RL 36 RX9 yX9_dust cX9_dust 5 (some .int) 2 := KV.mk (wm 334 rfl rfl) (wm 335 rfl rfl) (wm 336 rfl rfl) (wm 1 rfl rfl) (wm 337 rfl rfl) (by decide +kernel)
set_option maxRecDepth 100000 in
theorem kc_L_40 : KV RL 40 RX9 yX9_sun cX9_sun 4 (some .int) 3 := KV.mk (wm 338 rfl rfl) (wm 339 rfl rfl) (wm 340 rfl rfl) (wm 1 rfl rfl) (wm 341 rfl rfl) (by decide +kernel)
set_option maxRecDepth 100000 in
theorem kc_X9_132 : KS RX9 132 yX9_isSunWay cX9_isSunWay 3 (some .boolean) 3 := KS.mk (wm 342 rfl rfl) (wm 343 rfl rfl) (wm 1 rfl rfl) (wm 344 rfl rfl) (by decide +kernel)
set_option maxRecDepth 100000 in
theorem kc_X9_151 : KS RX9 151 yX9_isHour cX9_isHour 1 (some .boolean) 1 := KS.mk (wm 345 rfl rfl) (wm 346 rfl rfl) (wm 1 rfl rfl) (wm 347 rfl rfl) (by decide +kernel)
set_option maxRecDepth 100000 in
theorem kc_X9_135 : KV RX9 135 RX4 yX4_put cX4_put 4 none 3 := KV.mk (wm 348 rfl rfl) (wm 349 rfl rfl) (wm 350 rfl rfl) (wm 5 rfl rfl) (wm 351 rfl rfl) (by decide +kernel)
set_option maxRecDepth 100000 in
theorem kc_X9_139 : KV RX9 139 RX4 yX4_isNight cX4_isNight 2 (some .boolean) 1 := KV.mk (wm 352 rfl rfl) (wm 353 rfl rfl) (wm 354 rfl rfl) (wm 5 rfl rfl) (wm 355 rfl rfl) (by decide +kernel)
set_option maxRecDepth 100000 in
theorem kc_L_45 : KV RL 45 RX9 yX9_suns cX9_suns 3 (some .int) 0 := KV.mk (wm 356 rfl rfl) (wm 357 rfl rfl) (wm 358 rfl rfl) (wm 1 rfl rfl) (wm 359 rfl rfl) (by decide +kernel)
set_option maxRecDepth 100000 in
theorem kc_X9_145 : KV RX9 145 RX6 yX6_clear cX6_clear 1 none 0 := KV.mk (wm 360 rfl rfl) (wm 361 rfl rfl) (wm 362 rfl rfl) (wm 10 rfl rfl) (wm 363 rfl rfl) (by decide +kernel)
set_option maxRecDepth 100000 in
theorem kc_L_49 : KV RL 49 RX9 yX9_ideal cX9_ideal 2 (some .int) 1 := KV.mk (wm 364 rfl rfl) (wm 365 rfl rfl) (wm 366 rfl rfl) (wm 1 rfl rfl) (wm 367 rfl rfl) (by decide +kernel)
set_option maxRecDepth 100000 in
theorem kc_X9_160 : KV RX9 160 RX0 yX0_idealStep cX0_idealStep 11 (some .int) 2 := KV.mk (wm 368 rfl rfl) (wm 369 rfl rfl) (wm 370 rfl rfl) (wm 2 rfl rfl) (wm 371 rfl rfl) (by decide +kernel)
set_option maxRecDepth 100000 in
theorem kc_L_54 : KV RL 54 RX9 yX9_back cX9_back 3 (some .int) 1 := KV.mk (wm 376 rfl rfl) (wm 377 rfl rfl) (wm 378 rfl rfl) (wm 1 rfl rfl) (wm 379 rfl rfl) (by decide +kernel)
set_option maxRecDepth 100000 in
theorem kc_X9_164 : KV RX9 164 RX0 yX0_backStep cX0_backStep 5 (some .int) 2 := KV.mk (wm 380 rfl rfl) (wm 381 rfl rfl) (wm 382 rfl rfl) (wm 2 rfl rfl) (wm 383 rfl rfl) (by decide +kernel)
set_option maxRecDepth 100000 in
theorem kc_X0_52 : KV RX0 52 RX0 yX0_idealStep cX0_idealStep 11 (some .int) 2 := KV.mk (wm 384 rfl rfl) (wm 369 rfl rfl) (wm 370 rfl rfl) (wm 2 rfl rfl) (wm 371 rfl rfl) (by decide +kernel)
set_option maxRecDepth 100000 in
theorem kc_X0_56 : KV RX0 56 RX0 yX0_isFreeAt cX0_isFreeAt 6 (some .boolean) 3 := KV.mk (wm 385 rfl rfl) (wm 387 rfl rfl) (wmS 2 rfl rfl) (wm 2 rfl rfl) (wm 388 rfl rfl) (by decide +kernel)
set_option maxRecDepth 100000 in
theorem kc_X0_60 : KN RX0 60 yX9_isStep cX9_isStep 1 (some .boolean) 1 := ⟨by decide +kernel, wm 291 rfl rfl, wm 1 rfl rfl, wm 292 rfl rfl, by decide +kernel⟩
set_option maxRecDepth 100000 in
theorem kc_X0_70 : KV RX0 70 RX2 yX2_put cX2_put 14 none 5 := KV.mk (wm 390 rfl rfl) (wm 391 rfl rfl) (wm 392 rfl rfl) (wm 3 rfl rfl) (wm 393 rfl rfl) (by decide +kernel)
set_option maxRecDepth 100000 in
theorem ml_X2_28 : Cond.methodLink RX2 28 Lib.Math.abs.name ∈ wsG := wm 395 rfl rfl
set_option maxRecDepth 100000 in
theorem kc_X0_74 : KV RX0 74 RX2 yX2_isLit cX2_isLit 2 (some .boolean) 1 := KV.mk (wm 400 rfl rfl) (wm 401 rfl rfl) (wm 402 rfl rfl) (wm 3 rfl rfl) (wm 403 rfl rfl) (by decide +kernel)
set_option maxRecDepth 100000 in
theorem kc_X0_77 : KV RX0 77 RX0 yX0_firstAhead cX0_firstAhead 2 (some .int) 1 := KV.mk (wm 404 rfl rfl) (wm 406 rfl rfl) (wmS 3 rfl rfl) (wm 2 rfl rfl) (wm 407 rfl rfl) (by decide +kernel)
set_option maxRecDepth 100000 in
theorem kc_X0_81 : KV RX0 81 RX0 yX0_lastAhead cX0_lastAhead 2 (some .int) 1 := KV.mk (wm 408 rfl rfl) (wm 410 rfl rfl) (wmS 4 rfl rfl) (wm 2 rfl rfl) (wm 411 rfl rfl) (by decide +kernel)
set_option maxRecDepth 100000 in
theorem kc_X0_84 : KV RX0 84 RX2 yX2_isShaded cX2_isShaded 5 (some .boolean) 3 := KV.mk (wm 412 rfl rfl) (wm 413 rfl rfl) (wm 414 rfl rfl) (wm 3 rfl rfl) (wm 415 rfl rfl) (by decide +kernel)
set_option maxRecDepth 100000 in
theorem kc_X2_51 : KV RX2 51 RX2 yX2_shadeStart cX2_shadeStart 3 (some .long) 2 := KV.mk (wm 416 rfl rfl) (wm 418 rfl rfl) (wmS 5 rfl rfl) (wm 3 rfl rfl) (wm 419 rfl rfl) (by decide +kernel)
set_option maxRecDepth 100000 in
theorem ml_X2_65 : Cond.methodLink RX2 65 Lib.MathLoose.min_long.x ∈ wsG := wm 420 rfl rfl
set_option maxRecDepth 100000 in
theorem ml_X2_69 : Cond.methodLink RX2 69 Lib.MathLoose.max_long.x ∈ wsG := wm 423 rfl rfl
set_option maxRecDepth 100000 in
theorem kc_X2_55 : KV RX2 55 RX2 yX2_shadeEnd cX2_shadeEnd 3 (some .long) 2 := KV.mk (wm 426 rfl rfl) (wm 428 rfl rfl) (wmS 6 rfl rfl) (wm 3 rfl rfl) (wm 429 rfl rfl) (by decide +kernel)
set_option maxRecDepth 100000 in
theorem kc_L_58 : KV RL 58 RX9 yX9_breadth cX9_breadth 4 (some .long) 2 := KV.mk (wm 430 rfl rfl) (wm 431 rfl rfl) (wm 432 rfl rfl) (wm 1 rfl rfl) (wm 433 rfl rfl) (by decide +kernel)
set_option maxRecDepth 100000 in
theorem kc_X9_167 : KV RX9 167 RX9 yX9_findingOfSight cX9_findingOfSight 3 (some .int) 2 := KV.mk (wm 434 rfl rfl) (wm 436 rfl rfl) (wmS 7 rfl rfl) (wm 1 rfl rfl) (wm 437 rfl rfl) (by decide +kernel)
set_option maxRecDepth 100000 in
theorem kc_X9_170 : KV RX9 170 RX9 yX9_lookFrom cX9_lookFrom 2 none 1 := KV.mk (wm 438 rfl rfl) (wm 440 rfl rfl) (wmS 8 rfl rfl) (wm 1 rfl rfl) (wm 441 rfl rfl) (by decide +kernel)
set_option maxRecDepth 100000 in
theorem kc_X9_278 : KV RX9 278 RX0 yX0_lookAsTurned cX0_lookAsTurned 4 none 2 := KV.mk (wm 442 rfl rfl) (wm 443 rfl rfl) (wm 444 rfl rfl) (wm 2 rfl rfl) (wm 445 rfl rfl) (by decide +kernel)
set_option maxRecDepth 100000 in
theorem kc_X9_178 : KV RX9 178 RX2 yX2_stretch cX2_stretch 2 (some .long) 1 := KV.mk (wm 446 rfl rfl) (wm 447 rfl rfl) (wm 448 rfl rfl) (wm 3 rfl rfl) (wm 449 rfl rfl) (by decide +kernel)
set_option maxRecDepth 100000 in
theorem kc_L_63 : KV RL 63 RX9 yX9_shade cX9_shade 4 (some .long) 2 := KV.mk (wm 450 rfl rfl) (wm 451 rfl rfl) (wm 452 rfl rfl) (wm 1 rfl rfl) (wm 453 rfl rfl) (by decide +kernel)
set_option maxRecDepth 100000 in
theorem kc_X9_184 : KV RX9 184 RX9 yX9_findingOfShade cX9_findingOfShade 4 (some .int) 2 := KV.mk (wm 454 rfl rfl) (wm 456 rfl rfl) (wmS 9 rfl rfl) (wm 1 rfl rfl) (wm 457 rfl rfl) (by decide +kernel)
set_option maxRecDepth 100000 in
theorem kc_X9_275 : KV RX9 275 RX2 yX2_isLit cX2_isLit 2 (some .boolean) 1 := KV.mk (wm 458 rfl rfl) (wm 401 rfl rfl) (wm 402 rfl rfl) (wm 3 rfl rfl) (wm 403 rfl rfl) (by decide +kernel)
set_option maxRecDepth 100000 in
theorem kc_X9_187 : KV RX9 187 RX0 yX0_castShade cX0_castShade 2 none 1 := KV.mk (wm 459 rfl rfl) (wm 460 rfl rfl) (wm 461 rfl rfl) (wm 2 rfl rfl) (wm 462 rfl rfl) (by decide +kernel)
set_option maxRecDepth 100000 in
theorem kc_X0_87 : KV RX0 87 RX2 yX2_cast cX2_cast 5 none 3 := KV.mk (wm 463 rfl rfl) (wm 464 rfl rfl) (wm 465 rfl rfl) (wm 3 rfl rfl) (wm 466 rfl rfl) (by decide +kernel)
set_option maxRecDepth 100000 in
theorem kc_X2_61 : KV RX2 61 RX2 yX2_addPiece cX2_addPiece 6 none 2 := KV.mk (wm 467 rfl rfl) (wm 469 rfl rfl) (wmS 10 rfl rfl) (wm 3 rfl rfl) (wm 470 rfl rfl) (by decide +kernel)
set_option maxRecDepth 100000 in
theorem kc_X9_190 : KV RX9 190 RX2 yX2_shaded cX2_shaded 8 (some .long) 0 := KV.mk (wm 471 rfl rfl) (wm 472 rfl rfl) (wm 473 rfl rfl) (wm 3 rfl rfl) (wm 474 rfl rfl) (by decide +kernel)
set_option maxRecDepth 100000 in
theorem kc_L_67 : KV RL 67 RX9 yX9_dark cX9_dark 4 (some .int) 2 := KV.mk (wm 475 rfl rfl) (wm 476 rfl rfl) (wm 477 rfl rfl) (wm 1 rfl rfl) (wm 478 rfl rfl) (by decide +kernel)
set_option maxRecDepth 100000 in
theorem kc_X9_194 : KV RX9 194 RX2 yX2_darkGroups cX2_darkGroups 11 (some .int) 1 := KV.mk (wm 479 rfl rfl) (wm 480 rfl rfl) (wm 481 rfl rfl) (wm 3 rfl rfl) (wm 482 rfl rfl) (by decide +kernel)
set_option maxRecDepth 100000 in
theorem kc_L_71 : KV RL 71 RX9 yX9_string cX9_string 5 (some .int) 2 := KV.mk (wm 484 rfl rfl) (wm 485 rfl rfl) (wm 486 rfl rfl) (wm 1 rfl rfl) (wm 487 rfl rfl) (by decide +kernel)
set_option maxRecDepth 100000 in
theorem kc_L_75 : KV RL 75 RX9 yX9_ceiling cX9_ceiling 4 (some .int) 2 := KV.mk (wm 488 rfl rfl) (wm 489 rfl rfl) (wm 490 rfl rfl) (wm 1 rfl rfl) (wm 491 rfl rfl) (by decide +kernel)
set_option maxRecDepth 100000 in
theorem kc_X9_197 : KS RX9 197 yX9_isString cX9_isString 1 (some .boolean) 1 := KS.mk (wm 492 rfl rfl) (wm 493 rfl rfl) (wm 1 rfl rfl) (wm 494 rfl rfl) (by decide +kernel)
set_option maxRecDepth 100000 in
theorem kc_L_79 : KV RL 79 RX9 yX9_current cX9_current 4 (some .int) 2 := KV.mk (wm 496 rfl rfl) (wm 497 rfl rfl) (wm 498 rfl rfl) (wm 1 rfl rfl) (wm 499 rfl rfl) (by decide +kernel)
set_option maxRecDepth 100000 in
theorem kc_X9_204 : KV RX9 204 RX0 yX0_weigh cX0_weigh 3 none 1 := KV.mk (wm 500 rfl rfl) (wm 501 rfl rfl) (wm 502 rfl rfl) (wm 2 rfl rfl) (wm 503 rfl rfl) (by decide +kernel)
set_option maxRecDepth 100000 in
theorem kc_X0_95 : KV RX0 95 RX0 yX0_castShade cX0_castShade 2 none 1 := KV.mk (wm 504 rfl rfl) (wm 460 rfl rfl) (wm 461 rfl rfl) (wm 2 rfl rfl) (wm 462 rfl rfl) (by decide +kernel)
set_option maxRecDepth 100000 in
theorem kc_X0_98 : KV RX0 98 RX2 yX2_darkGroups cX2_darkGroups 11 (some .int) 1 := KV.mk (wm 505 rfl rfl) (wm 480 rfl rfl) (wm 481 rfl rfl) (wm 3 rfl rfl) (wm 482 rfl rfl) (by decide +kernel)
set_option maxRecDepth 100000 in
theorem kc_X0_101 : KS RX0 101 yJ6_bitCount_0f7a4 cJ6_bitCount_0f7a4 1 (some .int) 1 := KS.mk (wm 506 rfl rfl) (wm 507 rfl rfl) (wm 13 rfl rfl) (wm 508 rfl rfl) (by decide +kernel)
set_option maxRecDepth 100000 in
theorem kc_X0_106 : KV RX0 106 RX2 yX2_stretch cX2_stretch 2 (some .long) 1 := KV.mk (wm 512 rfl rfl) (wm 447 rfl rfl) (wm 448 rfl rfl) (wm 3 rfl rfl) (wm 449 rfl rfl) (by decide +kernel)
set_option maxRecDepth 100000 in
theorem kc_L_83 : KV RL 83 RX9 yX9_gives cX9_gives 3 (some .int) 2 := KV.mk (wm 515 rfl rfl) (wm 516 rfl rfl) (wm 517 rfl rfl) (wm 1 rfl rfl) (wm 518 rfl rfl) (by decide +kernel)
set_option maxRecDepth 100000 in
theorem kc_X9_210 : KV RX9 210 RX0 yX0_weighAll cX0_weighAll 2 none 0 := KV.mk (wm 519 rfl rfl) (wm 520 rfl rfl) (wm 521 rfl rfl) (wm 2 rfl rfl) (wm 522 rfl rfl) (by decide +kernel)
set_option maxRecDepth 100000 in
theorem kc_X0_91 : KV RX0 91 RX0 yX0_weigh cX0_weigh 3 none 1 := KV.mk (wm 523 rfl rfl) (wm 501 rfl rfl) (wm 502 rfl rfl) (wm 2 rfl rfl) (wm 503 rfl rfl) (by decide +kernel)
set_option maxRecDepth 100000 in
theorem kc_X9_213 : KV RX9 213 RX5 yX5_rank cX5_rank 4 none 2 := KV.mk (wm 524 rfl rfl) (wm 525 rfl rfl) (wm 526 rfl rfl) (wm 6 rfl rfl) (wm 527 rfl rfl) (by decide +kernel)
set_option maxRecDepth 100000 in
theorem kc_X5_40 : KV RX5 40 RX5 yX5_insert cX5_insert 3 none 1 := KV.mk (wm 528 rfl rfl) (wm 530 rfl rfl) (wmS 11 rfl rfl) (wm 6 rfl rfl) (wm 531 rfl rfl) (by decide +kernel)
set_option maxRecDepth 100000 in
theorem kc_X9_217 : KV RX9 217 RX5 yX5_best cX5_best 3 (some .int) 0 := KV.mk (wm 532 rfl rfl) (wm 533 rfl rfl) (wm 534 rfl rfl) (wm 6 rfl rfl) (wm 535 rfl rfl) (by decide +kernel)
set_option maxRecDepth 100000 in
theorem ml_X5_44 : Cond.methodLink RX5 44 Lib.Math.max.name ∈ wsG := wm 536 rfl rfl
set_option maxRecDepth 100000 in
theorem kc_L_87 : KV RL 87 RX9 yX9_wind cX9_wind 3 (some .int) 2 := KV.mk (wm 539 rfl rfl) (wm 540 rfl rfl) (wm 541 rfl rfl) (wm 1 rfl rfl) (wm 542 rfl rfl) (by decide +kernel)
set_option maxRecDepth 100000 in
theorem kc_L_91 : KV RL 91 RX9 yX9_limit cX9_limit 3 (some .int) 1 := KV.mk (wm 543 rfl rfl) (wm 544 rfl rfl) (wm 545 rfl rfl) (wm 1 rfl rfl) (wm 546 rfl rfl) (by decide +kernel)
set_option maxRecDepth 100000 in
theorem kc_L_95 : KV RL 95 RX9 yX9_cleaning cX9_cleaning 4 (some .int) 2 := KV.mk (wm 547 rfl rfl) (wm 548 rfl rfl) (wm 549 rfl rfl) (wm 1 rfl rfl) (wm 550 rfl rfl) (by decide +kernel)
set_option maxRecDepth 100000 in
theorem kc_L_100 : KV RL 100 RX9 yX9_hour cX9_hour 1 (some .int) 0 := KV.mk (wm 551 rfl rfl) (wm 552 rfl rfl) (wm 553 rfl rfl) (wm 1 rfl rfl) (wm 554 rfl rfl) (by decide +kernel)
set_option maxRecDepth 100000 in
theorem kc_X9_231 : KV RX9 231 RX9 yX9_passHour cX9_passHour 5 none 0 := KV.mk (wm 555 rfl rfl) (wm 557 rfl rfl) (wmS 12 rfl rfl) (wm 1 rfl rfl) (wm 558 rfl rfl) (by decide +kernel)
set_option maxRecDepth 100000 in
theorem kc_X9_282 : KV RX9 282 RX8 yX8_stateAt cX8_stateAt 3 (some .int) 1 := KV.mk (wm 559 rfl rfl) (wm 560 rfl rfl) (wm 561 rfl rfl) (wm 7 rfl rfl) (wm 562 rfl rfl) (by decide +kernel)
set_option maxRecDepth 100000 in
theorem ml_X8_30 : Cond.methodLink RX8 30 Lib.Math.min.name ∈ wsG := wm 563 rfl rfl
set_option maxRecDepth 100000 in
theorem kc_X9_285 : KV RX9 285 RX9 yX9_targetStep cX9_targetStep 4 (some .int) 2 := KV.mk (wm 566 rfl rfl) (wm 568 rfl rfl) (wmS 13 rfl rfl) (wm 1 rfl rfl) (wm 569 rfl rfl) (by decide +kernel)
set_option maxRecDepth 100000 in
theorem kc_X9_288 : KV RX9 288 RX0 yX0_turnTo cX0_turnTo 5 none 2 := KV.mk (wm 570 rfl rfl) (wm 571 rfl rfl) (wm 572 rfl rfl) (wm 2 rfl rfl) (wm 573 rfl rfl) (by decide +kernel)
set_option maxRecDepth 100000 in
theorem kc_X9_291 : KV RX9 291 RX1 yX1_begin cX1_begin 4 none 2 := KV.mk (wm 574 rfl rfl) (wm 575 rfl rfl) (wm 576 rfl rfl) (wm 8 rfl rfl) (wm 577 rfl rfl) (by decide +kernel)
set_option maxRecDepth 100000 in
theorem kc_X9_293 : KV RX9 293 RX5 yX5_bookInto cX5_bookInto 6 none 2 := KV.mk (wm 578 rfl rfl) (wm 579 rfl rfl) (wm 580 rfl rfl) (wm 6 rfl rfl) (wm 581 rfl rfl) (by decide +kernel)
set_option maxRecDepth 100000 in
theorem kc_X5_54 : KV RX5 54 RX2 yX2_isLit cX2_isLit 2 (some .boolean) 1 := KV.mk (wm 582 rfl rfl) (wm 401 rfl rfl) (wm 402 rfl rfl) (wm 3 rfl rfl) (wm 403 rfl rfl) (by decide +kernel)
set_option maxRecDepth 100000 in
theorem kc_X5_62 : KV RX5 62 RX2 yX2_stretch cX2_stretch 2 (some .long) 1 := KV.mk (wm 584 rfl rfl) (wm 447 rfl rfl) (wm 448 rfl rfl) (wm 3 rfl rfl) (wm 449 rfl rfl) (by decide +kernel)
set_option maxRecDepth 100000 in
theorem kc_X5_80 : KV RX5 80 RX5 yX5_rank cX5_rank 4 none 2 := KV.mk (wm 586 rfl rfl) (wm 525 rfl rfl) (wm 526 rfl rfl) (wm 6 rfl rfl) (wm 527 rfl rfl) (by decide +kernel)
set_option maxRecDepth 100000 in
theorem kc_X5_84 : KV RX5 84 RX5 yX5_best cX5_best 3 (some .int) 0 := KV.mk (wm 587 rfl rfl) (wm 533 rfl rfl) (wm 534 rfl rfl) (wm 6 rfl rfl) (wm 535 rfl rfl) (by decide +kernel)
set_option maxRecDepth 100000 in
theorem ml_X5_88 : Cond.methodLink RX5 88 Lib.Math.min.name ∈ wsG := wm 588 rfl rfl
set_option maxRecDepth 100000 in
theorem kc_X5_91 : KV RX5 91 RX5 yX5_sumOfRanked cX5_sumOfRanked 3 (some .int) 0 := KV.mk (wm 589 rfl rfl) (wm 591 rfl rfl) (wmS 14 rfl rfl) (wm 6 rfl rfl) (wm 592 rfl rfl) (by decide +kernel)
set_option maxRecDepth 100000 in
theorem kc_X9_297 : KV RX9 297 RX1 yX1_addToSums cX1_addToSums 2 none 0 := KV.mk (wm 593 rfl rfl) (wm 594 rfl rfl) (wm 595 rfl rfl) (wm 8 rfl rfl) (wm 596 rfl rfl) (by decide +kernel)
set_option maxRecDepth 100000 in
theorem kc_X9_300 : KV RX9 300 RX0 yX0_washAll cX0_washAll 2 none 0 := KV.mk (wm 597 rfl rfl) (wm 598 rfl rfl) (wm 599 rfl rfl) (wm 2 rfl rfl) (wm 600 rfl rfl) (by decide +kernel)
set_option maxRecDepth 100000 in
theorem kc_X0_117 : KV RX0 117 RX3 yX3_loseDust cX3_loseDust 2 (some .boolean) 0 := KV.mk (wm 601 rfl rfl) (wm 602 rfl rfl) (wm 603 rfl rfl) (wm 4 rfl rfl) (wm 604 rfl rfl) (by decide +kernel)
set_option maxRecDepth 100000 in
theorem kc_L_104 : KV RL 104 RX9 yX9_hours cX9_hours 5 (some .long) 1 := KV.mk (wm 605 rfl rfl) (wm 606 rfl rfl) (wm 607 rfl rfl) (wm 1 rfl rfl) (wm 608 rfl rfl) (by decide +kernel)
set_option maxRecDepth 100000 in
theorem kc_L_109 : KV RL 109 RX9 yX9_book cX9_book 2 (some .long) 1 := KV.mk (wm 609 rfl rfl) (wm 610 rfl rfl) (wm 611 rfl rfl) (wm 1 rfl rfl) (wm 612 rfl rfl) (by decide +kernel)
set_option maxRecDepth 100000 in
theorem kc_L_113 : KV RL 113 RX9 yX9_all cX9_all 2 (some .long) 1 := KV.mk (wm 613 rfl rfl) (wm 614 rfl rfl) (wm 615 rfl rfl) (wm 1 rfl rfl) (wm 616 rfl rfl) (by decide +kernel)
set_option maxRecDepth 100000 in
theorem kc_L_117 : KV RL 117 RX9 yX9_next cX9_next 1 (some .int) 0 := KV.mk (wm 617 rfl rfl) (wm 618 rfl rfl) (wm 619 rfl rfl) (wm 1 rfl rfl) (wm 620 rfl rfl) (by decide +kernel)
set_option maxRecDepth 100000 in
theorem kc_L_121 : KV RL 121 RX9 yX9_plan cX9_plan 3 (some .int) 2 := KV.mk (wm 621 rfl rfl) (wm 622 rfl rfl) (wm 623 rfl rfl) (wm 1 rfl rfl) (wm 624 rfl rfl) (by decide +kernel)
set_option maxRecDepth 100000 in
theorem kc_X9_251 : KS RX9 251 yX9_isWashPlan cX9_isWashPlan 2 (some .boolean) 2 := KS.mk (wm 625 rfl rfl) (wm 626 rfl rfl) (wm 1 rfl rfl) (wm 627 rfl rfl) (by decide +kernel)
set_option maxRecDepth 100000 in
theorem kc_X9_255 : KV RX9 255 RX7 yX7_choose cX7_choose 13 none 3 := KV.mk (wm 628 rfl rfl) (wm 629 rfl rfl) (wm 630 rfl rfl) (wm 9 rfl rfl) (wm 631 rfl rfl) (by decide +kernel)
set_option maxRecDepth 100000 in
theorem kc_X7_26 : KS RX7 26 yX7_gain cX7_gain 3 (some .long) 3 := KS.mk (wm 632 rfl rfl) (wm 633 rfl rfl) (wm 9 rfl rfl) (wm 634 rfl rfl) (by decide +kernel)
set_option maxRecDepth 100000 in
theorem kc_X7_32 : KV RX7 32 RX7 yX7_take cX7_take 4 none 2 := KV.mk (wm 636 rfl rfl) (wm 638 rfl rfl) (wmS 15 rfl rfl) (wm 9 rfl rfl) (wm 639 rfl rfl) (by decide +kernel)
set_option maxRecDepth 100000 in
theorem kc_L_125 : KV RL 125 RX9 yX9_worth cX9_worth 3 (some .long) 2 := KV.mk (wm 640 rfl rfl) (wm 641 rfl rfl) (wm 642 rfl rfl) (wm 1 rfl rfl) (wm 643 rfl rfl) (by decide +kernel)
set_option maxRecDepth 100000 in
theorem kc_L_129 : KV RL 129 RX9 yX9_wash cX9_wash 2 (some .int) 1 := KV.mk (wm 644 rfl rfl) (wm 645 rfl rfl) (wm 646 rfl rfl) (wm 1 rfl rfl) (wm 647 rfl rfl) (by decide +kernel)
set_option maxRecDepth 100000 in
theorem kc_X9_266 : KV RX9 266 RX0 yX0_washRows cX0_washRows 4 (some .int) 1 := KV.mk (wm 648 rfl rfl) (wm 649 rfl rfl) (wm 650 rfl rfl) (wm 2 rfl rfl) (wm 651 rfl rfl) (by decide +kernel)
set_option maxRecDepth 100000 in
theorem kc_L_133 : KV RL 133 RX9 yX9_storm cX9_storm 2 (some .int) 1 := KV.mk (wm 652 rfl rfl) (wm 653 rfl rfl) (wm 654 rfl rfl) (wm 1 rfl rfl) (wm 655 rfl rfl) (by decide +kernel)
set_option maxRecDepth 100000 in
theorem kc_X9_269 : KV RX9 269 RX0 yX0_addDust cX0_addDust 4 (some .int) 1 := KV.mk (wm 656 rfl rfl) (wm 657 rfl rfl) (wm 658 rfl rfl) (wm 2 rfl rfl) (wm 659 rfl rfl) (by decide +kernel)
set_option maxRecDepth 100000 in
theorem ml_X0_121 : Cond.methodLink RX0 121 Lib.Math.min.name ∈ wsG := wm 660 rfl rfl
set_option maxRecDepth 100000 in
theorem kc_L_137 : KV RL 137 RX9 yX9_tell cX9_tell 2 (some .int) 1 := KV.mk (wm 661 rfl rfl) (wm 662 rfl rfl) (wm 663 rfl rfl) (wm 1 rfl rfl) (wm 664 rfl rfl) (by decide +kernel)
set_option maxRecDepth 100000 in
theorem kc_X9_272 : KV RX9 272 RX6 yX6_append cX6_append 2 none 1 := KV.mk (wm 665 rfl rfl) (wm 666 rfl rfl) (wm 667 rfl rfl) (wm 10 rfl rfl) (wm 668 rfl rfl) (by decide +kernel)
set_option maxRecDepth 100000 in
theorem kc_L_141 : KV RL 141 RX9 yX9_check cX9_check 3 (some .int) 0 := KV.mk (wm 669 rfl rfl) (wm 670 rfl rfl) (wm 671 rfl rfl) (wm 1 rfl rfl) (wm 672 rfl rfl) (by decide +kernel)
set_option maxRecDepth 100000 in
theorem kc_L_145 : KV RL 145 RX9 yX9_found cX9_found 2 (some .int) 1 := KV.mk (wm 673 rfl rfl) (wm 674 rfl rfl) (wm 675 rfl rfl) (wm 1 rfl rfl) (wm 676 rfl rfl) (by decide +kernel)
set_option maxRecDepth 100000 in
theorem kc_L_17 : KV RL 17 RX10 yX10_row cX10_row 6 (some .int) 5 := KV.mk (wm 769 rfl rfl) (wm 770 rfl rfl) (wm 771 rfl rfl) (wm 11 rfl rfl) (wm 772 rfl rfl) (by decide +kernel)
set_option maxRecDepth 100000 in
theorem kc_X10_75 : KS RX10 75 yX10_in cX10_in 3 (some .boolean) 3 := KS.mk (wm 773 rfl rfl) (wm 774 rfl rfl) (wm 11 rfl rfl) (wm 775 rfl rfl) (by decide +kernel)
set_option maxRecDepth 100000 in
theorem kc_X10_115 : KS RX10 115 yX10_isStep cX10_isStep 1 (some .boolean) 1 := KS.mk (wm 776 rfl rfl) (wm 777 rfl rfl) (wm 11 rfl rfl) (wm 778 rfl rfl) (by decide +kernel)
set_option maxRecDepth 100000 in
theorem kc_X10_120 : KV RX10 120 RX10 yX10_finding cX10_finding 2 (some .int) 1 := KV.mk (wm 780 rfl rfl) (wm 782 rfl rfl) (wmS 16 rfl rfl) (wm 11 rfl rfl) (wm 783 rfl rfl) (by decide +kernel)
set_option maxRecDepth 100000 in
theorem kc_L_22 : KV RL 22 RX10 yX10_drop cX10_drop 1 (some .int) 0 := KV.mk (wm 787 rfl rfl) (wm 788 rfl rfl) (wm 789 rfl rfl) (wm 11 rfl rfl) (wm 790 rfl rfl) (by decide +kernel)
set_option maxRecDepth 100000 in
theorem kc_L_27 : KV RL 27 RX10 yX10_about cX10_about 3 (some .int) 2 := KV.mk (wm 792 rfl rfl) (wm 793 rfl rfl) (wm 794 rfl rfl) (wm 11 rfl rfl) (wm 795 rfl rfl) (by decide +kernel)
set_option maxRecDepth 100000 in
theorem kc_X10_127 : KV RX10 127 RX10 yX10_isRow cX10_isRow 2 (some .boolean) 1 := KV.mk (wm 796 rfl rfl) (wm 798 rfl rfl) (wmS 17 rfl rfl) (wm 11 rfl rfl) (wm 799 rfl rfl) (by decide +kernel)
set_option maxRecDepth 100000 in
theorem kc_L_31 : KV RL 31 RX10 yX10_as cX10_as 3 (some .int) 2 := KV.mk (wm 800 rfl rfl) (wm 801 rfl rfl) (wm 802 rfl rfl) (wm 11 rfl rfl) (wm 803 rfl rfl) (by decide +kernel)
set_option maxRecDepth 100000 in
theorem kc_L_35 : KV RL 35 RX10 yX10_turn cX10_turn 4 (some .int) 2 := KV.mk (wm 805 rfl rfl) (wm 806 rfl rfl) (wm 807 rfl rfl) (wm 11 rfl rfl) (wm 808 rfl rfl) (by decide +kernel)
set_option maxRecDepth 100000 in
theorem kc_L_39 : KV RL 39 RX10 yX10_dust cX10_dust 4 (some .int) 2 := KV.mk (wm 809 rfl rfl) (wm 810 rfl rfl) (wm 811 rfl rfl) (wm 11 rfl rfl) (wm 812 rfl rfl) (by decide +kernel)
set_option maxRecDepth 100000 in
theorem kc_L_44 : KV RL 44 RX10 yX10_sun cX10_sun 4 (some .int) 3 := KV.mk (wm 813 rfl rfl) (wm 814 rfl rfl) (wm 815 rfl rfl) (wm 11 rfl rfl) (wm 816 rfl rfl) (by decide +kernel)
set_option maxRecDepth 100000 in
theorem kc_X10_134 : KS RX10 134 yX10_isSun cX10_isSun 3 (some .boolean) 3 := KS.mk (wm 817 rfl rfl) (wm 818 rfl rfl) (wm 11 rfl rfl) (wm 819 rfl rfl) (by decide +kernel)
set_option maxRecDepth 100000 in
theorem kc_X10_131 : KS RX10 131 yX10_isHour cX10_isHour 1 (some .boolean) 1 := KS.mk (wm 820 rfl rfl) (wm 821 rfl rfl) (wm 11 rfl rfl) (wm 822 rfl rfl) (by decide +kernel)
set_option maxRecDepth 100000 in
theorem kc_X10_137 : KV RX10 137 RX10 yX10_setSun cX10_setSun 4 none 3 := KV.mk (wm 823 rfl rfl) (wm 825 rfl rfl) (wmS 18 rfl rfl) (wm 11 rfl rfl) (wm 826 rfl rfl) (by decide +kernel)
set_option maxRecDepth 100000 in
theorem kc_L_48 : KV RL 48 RX10 yX10_suns cX10_suns 3 (some .int) 0 := KV.mk (wm 827 rfl rfl) (wm 828 rfl rfl) (wm 829 rfl rfl) (wm 11 rfl rfl) (wm 830 rfl rfl) (by decide +kernel)
set_option maxRecDepth 100000 in
theorem kc_L_53 : KV RL 53 RX10 yX10_ideal cX10_ideal 2 (some .int) 1 := KV.mk (wm 831 rfl rfl) (wm 832 rfl rfl) (wm 833 rfl rfl) (wm 11 rfl rfl) (wm 834 rfl rfl) (by decide +kernel)
set_option maxRecDepth 100000 in
theorem kc_X10_185 : KV RX10 185 RX10 yX10_isNight cX10_isNight 2 (some .boolean) 1 := KV.mk (wm 835 rfl rfl) (wm 837 rfl rfl) (wmS 19 rfl rfl) (wm 11 rfl rfl) (wm 838 rfl rfl) (by decide +kernel)
set_option maxRecDepth 100000 in
theorem kc_X10_178 : KV RX10 178 RX10 yX10_idealOf cX10_idealOf 10 (some .int) 1 := KV.mk (wm 839 rfl rfl) (wm 841 rfl rfl) (wmS 20 rfl rfl) (wm 11 rfl rfl) (wm 842 rfl rfl) (by decide +kernel)
set_option maxRecDepth 100000 in
theorem kc_X10_151 : KS RX10 151 yX10_cosine cX10_cosine 1 (some .long) 1 := KS.mk (wm 843 rfl rfl) (wm 844 rfl rfl) (wm 11 rfl rfl) (wm 845 rfl rfl) (by decide +kernel)
set_option maxRecDepth 100000 in
theorem kc_X10_155 : KS RX10 155 yX10_sine cX10_sine 3 (some .long) 1 := KS.mk (wm 859 rfl rfl) (wm 860 rfl rfl) (wm 11 rfl rfl) (wm 861 rfl rfl) (by decide +kernel)
set_option maxRecDepth 100000 in
theorem kc_L_57 : KV RL 57 RX10 yX10_back cX10_back 3 (some .int) 1 := KV.mk (wm 867 rfl rfl) (wm 868 rfl rfl) (wm 869 rfl rfl) (wm 11 rfl rfl) (wm 870 rfl rfl) (by decide +kernel)
set_option maxRecDepth 100000 in
theorem kc_X10_188 : KV RX10 188 RX10 yX10_backOf cX10_backOf 4 (some .int) 1 := KV.mk (wm 871 rfl rfl) (wm 873 rfl rfl) (wmS 21 rfl rfl) (wm 11 rfl rfl) (wm 874 rfl rfl) (by decide +kernel)
set_option maxRecDepth 100000 in
theorem kc_X10_181 : KV RX10 181 RX10 yX10_isClear cX10_isClear 5 (some .boolean) 2 := KV.mk (wm 875 rfl rfl) (wm 877 rfl rfl) (wmS 22 rfl rfl) (wm 11 rfl rfl) (wm 878 rfl rfl) (by decide +kernel)
set_option maxRecDepth 100000 in
theorem kc_X10_171 : KV RX10 171 RX10 yX10_breadthOf cX10_breadthOf 3 (some .long) 2 := KV.mk (wm 879 rfl rfl) (wm 881 rfl rfl) (wmS 23 rfl rfl) (wm 11 rfl rfl) (wm 882 rfl rfl) (by decide +kernel)
set_option maxRecDepth 100000 in
theorem kc_X10_158 : KV RX10 158 RX10 yX10_look cX10_look 11 (some .long) 3 := KV.mk (wm 883 rfl rfl) (wm 885 rfl rfl) (wmS 24 rfl rfl) (wm 11 rfl rfl) (wm 886 rfl rfl) (by decide +kernel)
set_option maxRecDepth 100000 in
theorem kc_X10_144 : KV RX10 144 RX10 yX10_stepAt cX10_stepAt 2 (some .int) 1 := KV.mk (wm 887 rfl rfl) (wm 889 rfl rfl) (wmS 25 rfl rfl) (wm 11 rfl rfl) (wm 890 rfl rfl) (by decide +kernel)
set_option maxRecDepth 100000 in
theorem kc_X10_175 : KV RX10 175 RX10 yX10_shadeOf cX10_shadeOf 3 (some .long) 2 := KV.mk (wm 893 rfl rfl) (wm 895 rfl rfl) (wmS 26 rfl rfl) (wm 11 rfl rfl) (wm 896 rfl rfl) (by decide +kernel)
set_option maxRecDepth 100000 in
theorem kc_X10_167 : KV RX10 167 RX10 yX10_shaded cX10_shaded 24 (some .long) 4 := KV.mk (wm 898 rfl rfl) (wm 900 rfl rfl) (wmS 27 rfl rfl) (wm 11 rfl rfl) (wm 901 rfl rfl) (by decide +kernel)
set_option maxRecDepth 100000 in
theorem kc_X10_162 : KV RX10 162 RX10 yX10_isAhead cX10_isAhead 4 (some .boolean) 3 := KV.mk (wm 902 rfl rfl) (wm 904 rfl rfl) (wmS 28 rfl rfl) (wm 11 rfl rfl) (wm 905 rfl rfl) (by decide +kernel)
set_option maxRecDepth 100000 in
theorem kc_L_62 : KV RL 62 RX10 yX10_breadth cX10_breadth 4 (some .long) 2 := KV.mk (wm 906 rfl rfl) (wm 907 rfl rfl) (wm 908 rfl rfl) (wm 11 rfl rfl) (wm 909 rfl rfl) (by decide +kernel)
set_option maxRecDepth 100000 in
theorem kc_X10_191 : KV RX10 191 RX10 yX10_unseen cX10_unseen 3 (some .int) 2 := KV.mk (wm 910 rfl rfl) (wm 912 rfl rfl) (wmS 29 rfl rfl) (wm 11 rfl rfl) (wm 913 rfl rfl) (by decide +kernel)
set_option maxRecDepth 100000 in
theorem kc_L_66 : KV RL 66 RX10 yX10_shade cX10_shade 4 (some .long) 2 := KV.mk (wm 914 rfl rfl) (wm 915 rfl rfl) (wm 916 rfl rfl) (wm 11 rfl rfl) (wm 917 rfl rfl) (by decide +kernel)
set_option maxRecDepth 100000 in
theorem kc_X10_195 : KV RX10 195 RX10 yX10_unlit cX10_unlit 4 (some .int) 2 := KV.mk (wm 918 rfl rfl) (wm 920 rfl rfl) (wmS 30 rfl rfl) (wm 11 rfl rfl) (wm 921 rfl rfl) (by decide +kernel)
set_option maxRecDepth 100000 in
theorem kc_L_70 : KV RL 70 RX10 yX10_dark cX10_dark 4 (some .int) 2 := KV.mk (wm 922 rfl rfl) (wm 923 rfl rfl) (wm 924 rfl rfl) (wm 11 rfl rfl) (wm 925 rfl rfl) (by decide +kernel)
set_option maxRecDepth 100000 in
theorem kc_X10_198 : KV RX10 198 RX10 yX10_darkOf cX10_darkOf 9 (some .int) 2 := KV.mk (wm 926 rfl rfl) (wm 928 rfl rfl) (wmS 31 rfl rfl) (wm 11 rfl rfl) (wm 929 rfl rfl) (by decide +kernel)
set_option maxRecDepth 100000 in
theorem kc_L_74 : KV RL 74 RX10 yX10_string cX10_string 4 (some .int) 2 := KV.mk (wm 930 rfl rfl) (wm 931 rfl rfl) (wm 932 rfl rfl) (wm 11 rfl rfl) (wm 933 rfl rfl) (by decide +kernel)
set_option maxRecDepth 100000 in
theorem kc_X10_201 : KS RX10 201 yX10_isString cX10_isString 1 (some .boolean) 1 := KS.mk (wm 934 rfl rfl) (wm 935 rfl rfl) (wm 11 rfl rfl) (wm 936 rfl rfl) (by decide +kernel)
set_option maxRecDepth 100000 in
theorem kc_L_78 : KV RL 78 RX10 yX10_ceiling cX10_ceiling 4 (some .int) 2 := KV.mk (wm 937 rfl rfl) (wm 938 rfl rfl) (wm 939 rfl rfl) (wm 11 rfl rfl) (wm 940 rfl rfl) (by decide +kernel)
set_option maxRecDepth 100000 in
theorem kc_L_82 : KV RL 82 RX10 yX10_current cX10_current 4 (some .int) 2 := KV.mk (wm 941 rfl rfl) (wm 942 rfl rfl) (wm 943 rfl rfl) (wm 11 rfl rfl) (wm 944 rfl rfl) (by decide +kernel)
set_option maxRecDepth 100000 in
theorem kc_X10_214 : KV RX10 214 RX10 yX10_currentOf cX10_currentOf 3 (some .long) 2 := KV.mk (wm 945 rfl rfl) (wm 947 rfl rfl) (wmS 32 rfl rfl) (wm 11 rfl rfl) (wm 948 rfl rfl) (by decide +kernel)
set_option maxRecDepth 100000 in
theorem kc_X10_206 : KV RX10 206 RX10 yX10_clean cX10_clean 7 (some .long) 2 := KV.mk (wm 949 rfl rfl) (wm 951 rfl rfl) (wmS 33 rfl rfl) (wm 11 rfl rfl) (wm 952 rfl rfl) (by decide +kernel)
set_option maxRecDepth 100000 in
theorem kc_X10_211 : KV RX10 211 RX10 yX10_dusted cX10_dusted 3 (some .long) 2 := KV.mk (wm 954 rfl rfl) (wm 956 rfl rfl) (wmS 34 rfl rfl) (wm 11 rfl rfl) (wm 957 rfl rfl) (by decide +kernel)
set_option maxRecDepth 100000 in
theorem kc_L_86 : KV RL 86 RX10 yX10_gives cX10_gives 3 (some .int) 2 := KV.mk (wm 959 rfl rfl) (wm 960 rfl rfl) (wm 961 rfl rfl) (wm 11 rfl rfl) (wm 962 rfl rfl) (by decide +kernel)
set_option maxRecDepth 100000 in
theorem kc_X10_217 : KV RX10 217 RX10 yX10_givesOf cX10_givesOf 8 (some .long) 2 := KV.mk (wm 963 rfl rfl) (wm 965 rfl rfl) (wmS 35 rfl rfl) (wm 11 rfl rfl) (wm 966 rfl rfl) (by decide +kernel)
set_option maxRecDepth 100000 in
theorem kc_L_90 : KV RL 90 RX10 yX10_wind cX10_wind 3 (some .int) 2 := KV.mk (wm 967 rfl rfl) (wm 968 rfl rfl) (wm 969 rfl rfl) (wm 11 rfl rfl) (wm 970 rfl rfl) (by decide +kernel)
set_option maxRecDepth 100000 in
theorem kc_L_94 : KV RL 94 RX10 yX10_limit cX10_limit 3 (some .int) 1 := KV.mk (wm 971 rfl rfl) (wm 972 rfl rfl) (wm 973 rfl rfl) (wm 11 rfl rfl) (wm 974 rfl rfl) (by decide +kernel)
set_option maxRecDepth 100000 in
theorem kc_L_99 : KV RL 99 RX10 yX10_cleaning cX10_cleaning 4 (some .int) 2 := KV.mk (wm 975 rfl rfl) (wm 976 rfl rfl) (wm 977 rfl rfl) (wm 11 rfl rfl) (wm 978 rfl rfl) (by decide +kernel)
set_option maxRecDepth 100000 in
theorem kc_L_103 : KV RL 103 RX10 yX10_hour cX10_hour 3 (some .int) 0 := KV.mk (wm 979 rfl rfl) (wm 980 rfl rfl) (wm 981 rfl rfl) (wm 11 rfl rfl) (wm 982 rfl rfl) (by decide +kernel)
set_option maxRecDepth 100000 in
theorem kc_X10_242 : KV RX10 242 RX10 yX10_findState cX10_findState 4 none 1 := KV.mk (wm 983 rfl rfl) (wm 985 rfl rfl) (wmS 36 rfl rfl) (wm 11 rfl rfl) (wm 986 rfl rfl) (by decide +kernel)
set_option maxRecDepth 100000 in
theorem kc_X10_246 : KV RX10 246 RX10 yX10_setSteps cX10_setSteps 5 none 1 := KV.mk (wm 987 rfl rfl) (wm 989 rfl rfl) (wmS 37 rfl rfl) (wm 11 rfl rfl) (wm 990 rfl rfl) (by decide +kernel)
set_option maxRecDepth 100000 in
theorem kc_X10_226 : KV RX10 226 RX10 yX10_stepFor cX10_stepFor 3 (some .int) 1 := KV.mk (wm 991 rfl rfl) (wm 993 rfl rfl) (wmS 38 rfl rfl) (wm 11 rfl rfl) (wm 994 rfl rfl) (by decide +kernel)
set_option maxRecDepth 100000 in
theorem kc_X10_249 : KV RX10 249 RX10 yX10_writeBook cX10_writeBook 7 none 1 := KV.mk (wm 995 rfl rfl) (wm 997 rfl rfl) (wmS 39 rfl rfl) (wm 11 rfl rfl) (wm 998 rfl rfl) (by decide +kernel)
set_option maxRecDepth 100000 in
theorem kc_L_108 : KV RL 108 RX10 yX10_hours cX10_hours 6 (some .long) 1 := KV.mk (wm 999 rfl rfl) (wm 1000 rfl rfl) (wm 1001 rfl rfl) (wm 11 rfl rfl) (wm 1002 rfl rfl) (by decide +kernel)
set_option maxRecDepth 100000 in
theorem kc_X10_252 : KV RX10 252 RX10 yX10_hour cX10_hour 3 (some .int) 0 := KV.mk (wm 1003 rfl rfl) (wm 980 rfl rfl) (wm 981 rfl rfl) (wm 11 rfl rfl) (wm 982 rfl rfl) (by decide +kernel)
set_option maxRecDepth 100000 in
theorem kc_L_112 : KV RL 112 RX10 yX10_book cX10_book 2 (some .long) 1 := KV.mk (wm 1004 rfl rfl) (wm 1005 rfl rfl) (wm 1006 rfl rfl) (wm 11 rfl rfl) (wm 1007 rfl rfl) (by decide +kernel)
set_option maxRecDepth 100000 in
theorem kc_L_116 : KV RL 116 RX10 yX10_all cX10_all 2 (some .long) 1 := KV.mk (wm 1008 rfl rfl) (wm 1009 rfl rfl) (wm 1010 rfl rfl) (wm 11 rfl rfl) (wm 1011 rfl rfl) (by decide +kernel)
set_option maxRecDepth 100000 in
theorem kc_L_120 : KV RL 120 RX10 yX10_next cX10_next 1 (some .int) 0 := KV.mk (wm 1012 rfl rfl) (wm 1013 rfl rfl) (wm 1014 rfl rfl) (wm 11 rfl rfl) (wm 1015 rfl rfl) (by decide +kernel)
set_option maxRecDepth 100000 in
theorem kc_L_124 : KV RL 124 RX10 yX10_plan cX10_plan 5 (some .int) 2 := KV.mk (wm 1016 rfl rfl) (wm 1017 rfl rfl) (wm 1018 rfl rfl) (wm 11 rfl rfl) (wm 1019 rfl rfl) (by decide +kernel)
set_option maxRecDepth 100000 in
theorem kc_X10_261 : KS RX10 261 yX10_isPlan cX10_isPlan 2 (some .boolean) 2 := KS.mk (wm 1020 rfl rfl) (wm 1021 rfl rfl) (wm 11 rfl rfl) (wm 1022 rfl rfl) (by decide +kernel)
set_option maxRecDepth 100000 in
theorem kc_X10_264 : KV RX10 264 RX10 yX10_bestWorth cX10_bestWorth 11 (some .long) 2 := KV.mk (wm 1023 rfl rfl) (wm 1025 rfl rfl) (wmS 40 rfl rfl) (wm 11 rfl rfl) (wm 1026 rfl rfl) (by decide +kernel)
set_option maxRecDepth 100000 in
theorem kc_L_128 : KV RL 128 RX10 yX10_worth cX10_worth 3 (some .long) 2 := KV.mk (wm 1028 rfl rfl) (wm 1029 rfl rfl) (wm 1030 rfl rfl) (wm 11 rfl rfl) (wm 1031 rfl rfl) (by decide +kernel)
set_option maxRecDepth 100000 in
theorem kc_L_132 : KV RL 132 RX10 yX10_wash cX10_wash 4 (some .int) 1 := KV.mk (wm 1032 rfl rfl) (wm 1033 rfl rfl) (wm 1034 rfl rfl) (wm 11 rfl rfl) (wm 1035 rfl rfl) (by decide +kernel)
set_option maxRecDepth 100000 in
theorem kc_L_136 : KV RL 136 RX10 yX10_storm cX10_storm 4 (some .int) 1 := KV.mk (wm 1036 rfl rfl) (wm 1037 rfl rfl) (wm 1038 rfl rfl) (wm 11 rfl rfl) (wm 1039 rfl rfl) (by decide +kernel)
set_option maxRecDepth 100000 in
theorem kc_L_140 : KV RL 140 RX10 yX10_tell cX10_tell 2 (some .int) 1 := KV.mk (wm 1040 rfl rfl) (wm 1041 rfl rfl) (wm 1042 rfl rfl) (wm 11 rfl rfl) (wm 1043 rfl rfl) (by decide +kernel)
set_option maxRecDepth 100000 in
theorem kc_L_144 : KV RL 144 RX10 yX10_check cX10_check 3 (some .int) 0 := KV.mk (wm 1044 rfl rfl) (wm 1045 rfl rfl) (wm 1046 rfl rfl) (wm 11 rfl rfl) (wm 1047 rfl rfl) (by decide +kernel)
set_option maxRecDepth 100000 in
theorem kc_L_148 : KV RL 148 RX10 yX10_found cX10_found 2 (some .int) 1 := KV.mk (wm 1048 rfl rfl) (wm 1049 rfl rfl) (wm 1050 rfl rfl) (wm 11 rfl rfl) (wm 1051 rfl rfl) (by decide +kernel)
