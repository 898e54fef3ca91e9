/-! ===== the constructors' links ===== -/
section GCL
variable {X : fm_X} {cc : ByteArray} {nL ce sl : Nat} {I : Heap → List Loc → Prop} {own : String} {ret : Option FieldType} {pc : Nat} {lv : List (Option Value)} {st : List Value} {Q : State → Prop}
theorem g_rm {h nc ns : Nat} (hR : fm_R X = gR h nc ns) {x y : Nat} (h1 : x ≤ nc) (h2 : y ≤ ns) : x ≤ (fm_R X).cells ∧ y ≤ (fm_R X).slots := by
  rw [hR]
  exact ⟨h1, h2⟩
theorem g_rf {h nc ns : Nat} (hR : fm_R X = gR h nc ns) {x y : Nat} (h1 : x ≤ h) (h2 : y ≤ 64 * h) : x ≤ (fm_R X).frames ∧ y ≤ (fm_R X).locals := by
  rw [hR]
  exact ⟨h1, h2⟩
theorem g_ws (ws' : va_W) {ws : va_W} (h : ws = ws') (k : gw X nL ce sl (iw X ws') pc lv st Q) : gw X nL ce sl (iw X ws) pc lv st Q := by rw [h]; exact k
theorem g_cs (ce' sl' : Nat) (h1 : ce = ce') (h2 : sl = sl') (k : gw X nL ce' sl' I pc lv st Q) : gw X nL ce sl I pc lv st Q := by rw [h1, h2]; exact k
end GCL
theorem cw_0 : gk_W mX0_init 0 := ⟨wi_RX0, wc_X0_init, fm_at 236 (by decide +kernel) (by decide +kernel), rfl, rfl, by decide +kernel⟩
theorem cw_1 : gk_W mX1_init 0 := ⟨wi_RX1, wc_X1_init, fm_at 199 (by decide +kernel) (by decide +kernel), rfl, rfl, by decide +kernel⟩
theorem cw_2 : gk_W mX2_init 0 := ⟨wi_RX2, wc_X2_init, fm_at 221 (by decide +kernel) (by decide +kernel), rfl, rfl, by decide +kernel⟩
theorem cw_3 : gk_W mX3_init 0 := ⟨wi_RX3, wc_X3_init, fm_at 90 (by decide +kernel) (by decide +kernel), rfl, rfl, by decide +kernel⟩
theorem cw_4 : gk_W mX4_init 1 := ⟨wi_RX4, wc_X4_init, fm_at 158 (by decide +kernel) (by decide +kernel), rfl, rfl, by decide +kernel⟩
theorem cw_5 : gk_W mX5_init 0 := ⟨wi_RX5, wc_X5_init, fm_at 246 (by decide +kernel) (by decide +kernel), rfl, rfl, by decide +kernel⟩
theorem cw_6 : gk_W mX6_init 0 := ⟨wi_RX6, wc_X6_init, fm_at 84 (by decide +kernel) (by decide +kernel), rfl, rfl, by decide +kernel⟩
theorem cw_7 : gk_W mX7_init 0 := ⟨wi_RX7, wc_X7_init, fm_at 282 (by decide +kernel) (by decide +kernel), rfl, rfl, by decide +kernel⟩
theorem cw_8 : gk_W mX8_init 0 := ⟨wi_RX8, wc_X8_init, fm_at 76 (by decide +kernel) (by decide +kernel), rfl, rfl, by decide +kernel⟩
theorem cw_9 : gk_W mX9_init 0 := ⟨wi_RX9, wc_X9_init, fm_at 800 (by decide +kernel) (by decide +kernel), rfl, rfl, by decide +kernel⟩
theorem co_X8_5 : Cond.methodLink RX8 5 Lib.objectInit ∈ fm_tb := fm_at 78 (by decide +kernel) (by decide +kernel)
theorem co_X0_3 : Cond.methodLink RX0 3 Lib.objectInit ∈ fm_tb := fm_at 238 (by decide +kernel) (by decide +kernel)
theorem co_X1_3 : Cond.methodLink RX1 3 Lib.objectInit ∈ fm_tb := fm_at 201 (by decide +kernel) (by decide +kernel)
theorem co_X2_3 : Cond.methodLink RX2 3 Lib.objectInit ∈ fm_tb := fm_at 223 (by decide +kernel) (by decide +kernel)
theorem co_X3_3 : Cond.methodLink RX3 3 Lib.objectInit ∈ fm_tb := fm_at 92 (by decide +kernel) (by decide +kernel)
theorem co_X4_3 : Cond.methodLink RX4 3 Lib.objectInit ∈ fm_tb := fm_at 160 (by decide +kernel) (by decide +kernel)
theorem co_X5_3 : Cond.methodLink RX5 3 Lib.objectInit ∈ fm_tb := fm_at 248 (by decide +kernel) (by decide +kernel)
theorem co_X6_3 : Cond.methodLink RX6 3 Lib.objectInit ∈ fm_tb := fm_at 86 (by decide +kernel) (by decide +kernel)
theorem ci_X6_20 : Cond.methodLink RX6 20 yX4_init ∈ fm_tb := fm_at 157 (by decide +kernel) (by decide +kernel)
theorem co_X7_1 : Cond.methodLink RX7 1 Lib.objectInit ∈ fm_tb := fm_at 284 (by decide +kernel) (by decide +kernel)
theorem ci_L_9 : Cond.methodLink RL 9 yX8_init ∈ fm_tb := fm_at 75 (by decide +kernel) (by decide +kernel)
theorem ci_L_12 : Cond.methodLink RL 12 yX9_init ∈ fm_tb := fm_at 799 (by decide +kernel) (by decide +kernel)
theorem co_X9_3 : Cond.methodLink RX9 3 Lib.objectInit ∈ fm_tb := fm_at 802 (by decide +kernel) (by decide +kernel)
theorem cn_X8_11 : gk_N RX8 11 6 4 [.null, .null, .null, .null] := ⟨RX6, TX6, tyX6, rfl, inX6, tyX6_ok, fm_at 81 (by decide +kernel) (by decide +kernel), fm_at 82 (by decide +kernel) (by decide +kernel), wi_RX6, fun j hj => by rcases (show j = 0 ∨ j = 1 ∨ j = 2 ∨ j = 3 by omega) with rfl | rfl | rfl | rfl <;> rfl⟩
theorem cn_X8_21 : gk_N RX8 21 3 14 [.null, .null, .int 0, .null, .null, .null, .null, .int 0, .int 0, .null, .null, .int 0, .null, .null] := ⟨RX3, TX3, tyX3, rfl, inX3, tyX3_ok, fm_at 194 (by decide +kernel) (by decide +kernel), fm_at 88 (by decide +kernel) (by decide +kernel), wi_RX3, fun j hj => by rcases (show j = 0 ∨ j = 1 ∨ j = 2 ∨ j = 3 ∨ j = 4 ∨ j = 5 ∨ j = 6 ∨ j = 7 ∨ j = 8 ∨ j = 9 ∨ j = 10 ∨ j = 11 ∨ j = 12 ∨ j = 13 by omega) with rfl | rfl | rfl | rfl | rfl | rfl | rfl | rfl | rfl | rfl | rfl | rfl | rfl | rfl <;> rfl⟩
theorem cn_X8_28 : gk_N RX8 28 1 5 [.int 0, .null, .null, .null, .null] := ⟨RX1, TX1, tyX1, rfl, inX1, tyX1_ok, fm_at 196 (by decide +kernel) (by decide +kernel), fm_at 197 (by decide +kernel) (by decide +kernel), wi_RX1, fun j hj => by rcases (show j = 0 ∨ j = 1 ∨ j = 2 ∨ j = 3 ∨ j = 4 by omega) with rfl | rfl | rfl | rfl | rfl <;> rfl⟩
theorem cn_X8_35 : gk_N RX8 35 2 2 [.null, .int 0] := ⟨RX2, TX2, tyX2, rfl, inX2, tyX2_ok, fm_at 218 (by decide +kernel) (by decide +kernel), fm_at 219 (by decide +kernel) (by decide +kernel), wi_RX2, fun j hj => by rcases (show j = 0 ∨ j = 1 by omega) with rfl | rfl <;> rfl⟩
theorem cn_X8_42 : gk_N RX8 42 0 1 [.null] := ⟨RX0, TX0, tyX0, rfl, inX0, tyX0_ok, fm_at 233 (by decide +kernel) (by decide +kernel), fm_at 234 (by decide +kernel) (by decide +kernel), wi_RX0, fun j hj => by rcases (show j = 0 by omega) with rfl; rfl⟩
theorem cn_X8_49 : gk_N RX8 49 5 7 [.int 0, .int 0, .int 0, .null, .null, .null, .null] := ⟨RX5, TX5, tyX5, rfl, inX5, tyX5_ok, fm_at 243 (by decide +kernel) (by decide +kernel), fm_at 244 (by decide +kernel) (by decide +kernel), wi_RX5, fun j hj => by rcases (show j = 0 ∨ j = 1 ∨ j = 2 ∨ j = 3 ∨ j = 4 ∨ j = 5 ∨ j = 6 by omega) with rfl | rfl | rfl | rfl | rfl | rfl | rfl <;> rfl⟩
theorem cn_X8_56 : gk_N RX8 56 7 3 [.int 0, .int 0, .null] := ⟨RX7, TX7, tyX7, rfl, inX7, tyX7_ok, fm_at 278 (by decide +kernel) (by decide +kernel), fm_at 280 (by decide +kernel) (by decide +kernel), wi_RX7, fun j hj => by rcases (show j = 0 ∨ j = 1 ∨ j = 2 by omega) with rfl | rfl | rfl <;> rfl⟩
theorem cx_X8_56 : Cond.classLink RX8 56 "FaultGraph$Tape" ∈ fm_tb := fm_at 278 (by decide +kernel) (by decide +kernel)
theorem cn_X6_9 : gk_N RX6 9 3 14 [.null, .null, .int 0, .null, .null, .null, .null, .int 0, .int 0, .null, .null, .int 0, .null, .null] := ⟨RX3, TX3, tyX3, rfl, inX3, tyX3_ok, fm_at 87 (by decide +kernel) (by decide +kernel), fm_at 88 (by decide +kernel) (by decide +kernel), wi_RX3, fun j hj => by rcases (show j = 0 ∨ j = 1 ∨ j = 2 ∨ j = 3 ∨ j = 4 ∨ j = 5 ∨ j = 6 ∨ j = 7 ∨ j = 8 ∨ j = 9 ∨ j = 10 ∨ j = 11 ∨ j = 12 ∨ j = 13 by omega) with rfl | rfl | rfl | rfl | rfl | rfl | rfl | rfl | rfl | rfl | rfl | rfl | rfl | rfl <;> rfl⟩
theorem cn_X6_18 : gk_N RX6 18 4 3 [.null, .null, .int 0] := ⟨RX4, TX4, tyX4, rfl, inX4, tyX4_ok, fm_at 155 (by decide +kernel) (by decide +kernel), fm_at 156 (by decide +kernel) (by decide +kernel), wi_RX4, fun j hj => by rcases (show j = 0 ∨ j = 1 ∨ j = 2 by omega) with rfl | rfl | rfl <;> rfl⟩
theorem cn_L_7 : gk_N RL 7 8 9 [.null, .null, .null, .null, .null, .null, .null, .null, .int 0] := ⟨RX8, TX8, tyX8, rfl, inX8, tyX8_ok, fm_at 73 (by decide +kernel) (by decide +kernel), fm_at 74 (by decide +kernel) (by decide +kernel), wi_RX8, fun j hj => by rcases (show j = 0 ∨ j = 1 ∨ j = 2 ∨ j = 3 ∨ j = 4 ∨ j = 5 ∨ j = 6 ∨ j = 7 ∨ j = 8 by omega) with rfl | rfl | rfl | rfl | rfl | rfl | rfl | rfl | rfl <;> rfl⟩
theorem cn_L_10 : gk_N RL 10 9 35 [.int 0, .null, .null, .int 0, .null, .null, .null, .null, .int 0, .int 0, .null, .null, .int 0, .null, .null, .int 0, .null, .int 0, .null, .int 0, .null, .null, .int 0, .null, .null, .null, .null, .int 0, .null, .null, .int 0, .null, .null, .null, .null] := ⟨RX9, TX9, tyX9, rfl, inX9, tyX9_ok, fm_at 797 (by decide +kernel) (by decide +kernel), fm_at 798 (by decide +kernel) (by decide +kernel), wi_RX9, fun j hj => by rcases (show j = 0 ∨ j = 1 ∨ j = 2 ∨ j = 3 ∨ j = 4 ∨ j = 5 ∨ j = 6 ∨ j = 7 ∨ j = 8 ∨ j = 9 ∨ j = 10 ∨ j = 11 ∨ j = 12 ∨ j = 13 ∨ j = 14 ∨ j = 15 ∨ j = 16 ∨ j = 17 ∨ j = 18 ∨ j = 19 ∨ j = 20 ∨ j = 21 ∨ j = 22 ∨ j = 23 ∨ j = 24 ∨ j = 25 ∨ j = 26 ∨ j = 27 ∨ j = 28 ∨ j = 29 ∨ j = 30 ∨ j = 31 ∨ j = 32 ∨ j = 33 ∨ j = 34 by omega) with rfl | rfl | rfl | rfl | rfl | rfl | rfl | rfl | rfl | rfl | rfl | rfl | rfl | rfl | rfl | rfl | rfl | rfl | rfl | rfl | rfl | rfl | rfl | rfl | rfl | rfl | rfl | rfl | rfl | rfl | rfl | rfl | rfl | rfl | rfl <;> rfl⟩
theorem cp_X0_9 : gk_P RX0 9 0 0 true (.array .long) := ⟨RX0, TX0, 1, tyX0, rfl, inX0, by decide, fm_at 239 (by decide +kernel) (by decide +kernel), tyX0_ok, nmX0, rfl, by decide +kernel, rfl⟩
theorem cp_X1_11 : gk_P RX1 11 1 1 true (.array .long) := ⟨RX1, TX1, 5, tyX1, rfl, inX1, by decide, fm_at 203 (by decide +kernel) (by decide +kernel), tyX1_ok, nmX1, rfl, by decide +kernel, rfl⟩
theorem cp_X1_15 : gk_P RX1 15 1 2 true (.array .int) := ⟨RX1, TX1, 5, tyX1, rfl, inX1, by decide, fm_at 204 (by decide +kernel) (by decide +kernel), tyX1_ok, nmX1, rfl, by decide +kernel, rfl⟩
theorem cp_X1_19 : gk_P RX1 19 1 3 true (.array .int) := ⟨RX1, TX1, 5, tyX1, rfl, inX1, by decide, fm_at 205 (by decide +kernel) (by decide +kernel), tyX1_ok, nmX1, rfl, by decide +kernel, rfl⟩
theorem cp_X1_22 : gk_P RX1 22 1 4 true (.array .int) := ⟨RX1, TX1, 5, tyX1, rfl, inX1, by decide, fm_at 206 (by decide +kernel) (by decide +kernel), tyX1_ok, nmX1, rfl, by decide +kernel, rfl⟩
theorem cp_X2_9 : gk_P RX2 9 2 0 true (.array .int) := ⟨RX2, TX2, 2, tyX2, rfl, inX2, by decide, fm_at 224 (by decide +kernel) (by decide +kernel), tyX2_ok, nmX2, rfl, by decide +kernel, rfl⟩
theorem cp_X3_9 : gk_P RX3 9 3 0 true (.array .int) := ⟨RX3, TX3, 14, tyX3, rfl, inX3, by decide, fm_at 93 (by decide +kernel) (by decide +kernel), tyX3_ok, nmX3, rfl, by decide +kernel, rfl⟩
theorem cp_X3_15 : gk_P RX3 15 3 1 true (.array .int) := ⟨RX3, TX3, 14, tyX3, rfl, inX3, by decide, fm_at 96 (by decide +kernel) (by decide +kernel), tyX3_ok, nmX3, rfl, by decide +kernel, rfl⟩
theorem cp_X3_18 : gk_P RX3 18 3 3 true (.array .int) := ⟨RX3, TX3, 14, tyX3, rfl, inX3, by decide, fm_at 103 (by decide +kernel) (by decide +kernel), tyX3_ok, nmX3, rfl, by decide +kernel, rfl⟩
theorem cp_X3_21 : gk_P RX3 21 3 4 true (.array .int) := ⟨RX3, TX3, 14, tyX3, rfl, inX3, by decide, fm_at 105 (by decide +kernel) (by decide +kernel), tyX3_ok, nmX3, rfl, by decide +kernel, rfl⟩
theorem cp_X3_24 : gk_P RX3 24 3 5 true (.array .int) := ⟨RX3, TX3, 14, tyX3, rfl, inX3, by decide, fm_at 107 (by decide +kernel) (by decide +kernel), tyX3_ok, nmX3, rfl, by decide +kernel, rfl⟩
theorem cp_X3_27 : gk_P RX3 27 3 6 true (.array .int) := ⟨RX3, TX3, 14, tyX3, rfl, inX3, by decide, fm_at 108 (by decide +kernel) (by decide +kernel), tyX3_ok, nmX3, rfl, by decide +kernel, rfl⟩
theorem cp_X3_30 : gk_P RX3 30 3 8 false (.int) := ⟨RX3, TX3, 14, tyX3, rfl, inX3, by decide, fm_at 112 (by decide +kernel) (by decide +kernel), tyX3_ok, nmX3, rfl, by decide +kernel, rfl⟩
theorem cp_X3_34 : gk_P RX3 34 3 9 true (.array .int) := ⟨RX3, TX3, 14, tyX3, rfl, inX3, by decide, fm_at 114 (by decide +kernel) (by decide +kernel), tyX3_ok, nmX3, rfl, by decide +kernel, rfl⟩
theorem cp_X3_37 : gk_P RX3 37 3 10 true (.array .int) := ⟨RX3, TX3, 14, tyX3, rfl, inX3, by decide, fm_at 117 (by decide +kernel) (by decide +kernel), tyX3_ok, nmX3, rfl, by decide +kernel, rfl⟩
theorem cp_X3_40 : gk_P RX3 40 3 12 true (.array .long) := ⟨RX3, TX3, 14, tyX3, rfl, inX3, by decide, fm_at 122 (by decide +kernel) (by decide +kernel), tyX3_ok, nmX3, rfl, by decide +kernel, rfl⟩
theorem cp_X3_44 : gk_P RX3 44 3 13 true (.array .long) := ⟨RX3, TX3, 14, tyX3, rfl, inX3, by decide, fm_at 123 (by decide +kernel) (by decide +kernel), tyX3_ok, nmX3, rfl, by decide +kernel, rfl⟩
theorem cp_X4_15 : gk_P RX4 15 4 0 true (.array .int) := ⟨RX4, TX4, 3, tyX4, rfl, inX4, by decide, fm_at 164 (by decide +kernel) (by decide +kernel), tyX4_ok, nmX4, rfl, by decide +kernel, rfl⟩
theorem cp_X4_21 : gk_P RX4 21 4 1 true (.array .int) := ⟨RX4, TX4, 3, tyX4, rfl, inX4, by decide, fm_at 166 (by decide +kernel) (by decide +kernel), tyX4_ok, nmX4, rfl, by decide +kernel, rfl⟩
theorem cp_X5_11 : gk_P RX5 11 5 3 true (.array .int) := ⟨RX5, TX5, 7, tyX5, rfl, inX5, by decide, fm_at 255 (by decide +kernel) (by decide +kernel), tyX5_ok, nmX5, rfl, by decide +kernel, rfl⟩
theorem cp_X5_15 : gk_P RX5 15 5 4 true (.array .int) := ⟨RX5, TX5, 7, tyX5, rfl, inX5, by decide, fm_at 257 (by decide +kernel) (by decide +kernel), tyX5_ok, nmX5, rfl, by decide +kernel, rfl⟩
theorem cp_X5_18 : gk_P RX5 18 5 5 true (.array .int) := ⟨RX5, TX5, 7, tyX5, rfl, inX5, by decide, fm_at 259 (by decide +kernel) (by decide +kernel), tyX5_ok, nmX5, rfl, by decide +kernel, rfl⟩
theorem cp_X5_21 : gk_P RX5 21 5 6 true (.array .byte) := ⟨RX5, TX5, 7, tyX5, rfl, inX5, by decide, fm_at 261 (by decide +kernel) (by decide +kernel), tyX5_ok, nmX5, rfl, by decide +kernel, rfl⟩
theorem cp_X6_12 : gk_P RX6 12 6 0 true (.object "FaultGraph$Plant") := ⟨RX6, TX6, 4, tyX6, rfl, inX6, by decide, fm_at 177 (by decide +kernel) (by decide +kernel), tyX6_ok, nmX6, rfl, by decide +kernel, rfl⟩
theorem cp_X6_23 : gk_P RX6 23 6 1 true (.object "FaultGraph$Rows") := ⟨RX6, TX6, 4, tyX6, rfl, inX6, by decide, fm_at 179 (by decide +kernel) (by decide +kernel), tyX6_ok, nmX6, rfl, by decide +kernel, rfl⟩
theorem cp_X6_27 : gk_P RX6 27 6 2 true (.object "FaultGraph$Rows") := ⟨RX6, TX6, 4, tyX6, rfl, inX6, by decide, fm_at 181 (by decide +kernel) (by decide +kernel), tyX6_ok, nmX6, rfl, by decide +kernel, rfl⟩
theorem cp_X6_30 : gk_P RX6 30 6 3 true (.object "FaultGraph$Rows") := ⟨RX6, TX6, 4, tyX6, rfl, inX6, by decide, fm_at 183 (by decide +kernel) (by decide +kernel), tyX6_ok, nmX6, rfl, by decide +kernel, rfl⟩
theorem cp_X7_9 : gk_P RX7 9 7 0 false (.int) := ⟨RX7, TX7, 3, tyX7, rfl, inX7, by decide, fm_at 285 (by decide +kernel) (by decide +kernel), tyX7_ok, nmX7, rfl, by decide +kernel, rfl⟩
theorem cp_X7_13 : gk_P RX7 13 7 2 true (.array .long) := ⟨RX7, TX7, 3, tyX7, rfl, inX7, by decide, fm_at 289 (by decide +kernel) (by decide +kernel), tyX7_ok, nmX7, rfl, by decide +kernel, rfl⟩
theorem cp_X8_14 : gk_P RX8 14 8 0 true (.object "FaultGraph$State") := ⟨RX8, TX8, 9, tyX8, rfl, inX8, by decide, fm_at 298 (by decide +kernel) (by decide +kernel), tyX8_ok, nmX8, rfl, by decide +kernel, rfl⟩
theorem cp_X8_18 : gk_P RX8 18 8 1 true (.object "FaultGraph$State") := ⟨RX8, TX8, 9, tyX8, rfl, inX8, by decide, fm_at 299 (by decide +kernel) (by decide +kernel), tyX8_ok, nmX8, rfl, by decide +kernel, rfl⟩
theorem cp_X8_24 : gk_P RX8 24 8 2 true (.object "FaultGraph$Plant") := ⟨RX8, TX8, 9, tyX8, rfl, inX8, by decide, fm_at 300 (by decide +kernel) (by decide +kernel), tyX8_ok, nmX8, rfl, by decide +kernel, rfl⟩
theorem cp_X8_31 : gk_P RX8 31 8 3 true (.object "FaultGraph$Graph") := ⟨RX8, TX8, 9, tyX8, rfl, inX8, by decide, fm_at 301 (by decide +kernel) (by decide +kernel), tyX8_ok, nmX8, rfl, by decide +kernel, rfl⟩
theorem cp_X8_38 : gk_P RX8 38 8 4 true (.object "FaultGraph$LeastSets") := ⟨RX8, TX8, 9, tyX8, rfl, inX8, by decide, fm_at 302 (by decide +kernel) (by decide +kernel), tyX8_ok, nmX8, rfl, by decide +kernel, rfl⟩
theorem cp_X8_45 : gk_P RX8 45 8 5 true (.object "FaultGraph$Chances") := ⟨RX8, TX8, 9, tyX8, rfl, inX8, by decide, fm_at 303 (by decide +kernel) (by decide +kernel), tyX8_ok, nmX8, rfl, by decide +kernel, rfl⟩
theorem cp_X8_52 : gk_P RX8 52 8 6 true (.object "FaultGraph$SetUpText") := ⟨RX8, TX8, 9, tyX8, rfl, inX8, by decide, fm_at 304 (by decide +kernel) (by decide +kernel), tyX8_ok, nmX8, rfl, by decide +kernel, rfl⟩
theorem cp_X8_58 : gk_P RX8 58 8 7 true (.array (.object "FaultGraph$Tape")) := ⟨RX8, TX8, 9, tyX8, rfl, inX8, by decide, fm_at 305 (by decide +kernel) (by decide +kernel), tyX8_ok, nmX8, rfl, by decide +kernel, rfl⟩
theorem cp_X9_9 : gk_P RX9 9 9 1 true (.array .int) := ⟨RX9, TX9, 35, tyX9, rfl, inX9, by decide, fm_at 804 (by decide +kernel) (by decide +kernel), tyX9_ok, nmX9, rfl, by decide +kernel, rfl⟩
theorem cp_X9_15 : gk_P RX9 15 9 2 true (.array .int) := ⟨RX9, TX9, 35, tyX9, rfl, inX9, by decide, fm_at 805 (by decide +kernel) (by decide +kernel), tyX9_ok, nmX9, rfl, by decide +kernel, rfl⟩
theorem cp_X9_18 : gk_P RX9 18 9 4 true (.array .int) := ⟨RX9, TX9, 35, tyX9, rfl, inX9, by decide, fm_at 807 (by decide +kernel) (by decide +kernel), tyX9_ok, nmX9, rfl, by decide +kernel, rfl⟩
theorem cp_X9_21 : gk_P RX9 21 9 5 true (.array .int) := ⟨RX9, TX9, 35, tyX9, rfl, inX9, by decide, fm_at 808 (by decide +kernel) (by decide +kernel), tyX9_ok, nmX9, rfl, by decide +kernel, rfl⟩
theorem cp_X9_24 : gk_P RX9 24 9 6 true (.array .int) := ⟨RX9, TX9, 35, tyX9, rfl, inX9, by decide, fm_at 809 (by decide +kernel) (by decide +kernel), tyX9_ok, nmX9, rfl, by decide +kernel, rfl⟩
theorem cp_X9_27 : gk_P RX9 27 9 7 true (.array .int) := ⟨RX9, TX9, 35, tyX9, rfl, inX9, by decide, fm_at 810 (by decide +kernel) (by decide +kernel), tyX9_ok, nmX9, rfl, by decide +kernel, rfl⟩
theorem cp_X9_30 : gk_P RX9 30 9 8 false (.int) := ⟨RX9, TX9, 35, tyX9, rfl, inX9, by decide, fm_at 811 (by decide +kernel) (by decide +kernel), tyX9_ok, nmX9, rfl, by decide +kernel, rfl⟩
theorem cp_X9_34 : gk_P RX9 34 9 10 true (.array .int) := ⟨RX9, TX9, 35, tyX9, rfl, inX9, by decide, fm_at 813 (by decide +kernel) (by decide +kernel), tyX9_ok, nmX9, rfl, by decide +kernel, rfl⟩
theorem cp_X9_37 : gk_P RX9 37 9 11 true (.array .int) := ⟨RX9, TX9, 35, tyX9, rfl, inX9, by decide, fm_at 814 (by decide +kernel) (by decide +kernel), tyX9_ok, nmX9, rfl, by decide +kernel, rfl⟩
theorem cp_X9_40 : gk_P RX9 40 9 13 true (.array .int) := ⟨RX9, TX9, 35, tyX9, rfl, inX9, by decide, fm_at 816 (by decide +kernel) (by decide +kernel), tyX9_ok, nmX9, rfl, by decide +kernel, rfl⟩
theorem cp_X9_43 : gk_P RX9 43 9 14 true (.array .int) := ⟨RX9, TX9, 35, tyX9, rfl, inX9, by decide, fm_at 817 (by decide +kernel) (by decide +kernel), tyX9_ok, nmX9, rfl, by decide +kernel, rfl⟩
theorem cp_X9_46 : gk_P RX9 46 9 16 true (.array .int) := ⟨RX9, TX9, 35, tyX9, rfl, inX9, by decide, fm_at 819 (by decide +kernel) (by decide +kernel), tyX9_ok, nmX9, rfl, by decide +kernel, rfl⟩
theorem cp_X9_49 : gk_P RX9 49 9 18 true (.array .int) := ⟨RX9, TX9, 35, tyX9, rfl, inX9, by decide, fm_at 821 (by decide +kernel) (by decide +kernel), tyX9_ok, nmX9, rfl, by decide +kernel, rfl⟩
theorem cp_X9_52 : gk_P RX9 52 9 20 true (.array .int) := ⟨RX9, TX9, 35, tyX9, rfl, inX9, by decide, fm_at 823 (by decide +kernel) (by decide +kernel), tyX9_ok, nmX9, rfl, by decide +kernel, rfl⟩
theorem cp_X9_55 : gk_P RX9 55 9 21 true (.array .boolean) := ⟨RX9, TX9, 35, tyX9, rfl, inX9, by decide, fm_at 824 (by decide +kernel) (by decide +kernel), tyX9_ok, nmX9, rfl, by decide +kernel, rfl⟩
theorem cp_X9_59 : gk_P RX9 59 9 23 true (.array .long) := ⟨RX9, TX9, 35, tyX9, rfl, inX9, by decide, fm_at 826 (by decide +kernel) (by decide +kernel), tyX9_ok, nmX9, rfl, by decide +kernel, rfl⟩
theorem cp_X9_63 : gk_P RX9 63 9 24 true (.array .int) := ⟨RX9, TX9, 35, tyX9, rfl, inX9, by decide, fm_at 827 (by decide +kernel) (by decide +kernel), tyX9_ok, nmX9, rfl, by decide +kernel, rfl⟩
theorem cp_X9_66 : gk_P RX9 66 9 25 true (.array .int) := ⟨RX9, TX9, 35, tyX9, rfl, inX9, by decide, fm_at 828 (by decide +kernel) (by decide +kernel), tyX9_ok, nmX9, rfl, by decide +kernel, rfl⟩
theorem cp_X9_69 : gk_P RX9 69 9 26 true (.array .int) := ⟨RX9, TX9, 35, tyX9, rfl, inX9, by decide, fm_at 829 (by decide +kernel) (by decide +kernel), tyX9_ok, nmX9, rfl, by decide +kernel, rfl⟩
theorem cp_X9_72 : gk_P RX9 72 9 28 true (.array .int) := ⟨RX9, TX9, 35, tyX9, rfl, inX9, by decide, fm_at 831 (by decide +kernel) (by decide +kernel), tyX9_ok, nmX9, rfl, by decide +kernel, rfl⟩
theorem cp_X9_75 : gk_P RX9 75 9 29 true (.array .int) := ⟨RX9, TX9, 35, tyX9, rfl, inX9, by decide, fm_at 832 (by decide +kernel) (by decide +kernel), tyX9_ok, nmX9, rfl, by decide +kernel, rfl⟩
theorem cp_X9_78 : gk_P RX9 78 9 31 true (.array .int) := ⟨RX9, TX9, 35, tyX9, rfl, inX9, by decide, fm_at 834 (by decide +kernel) (by decide +kernel), tyX9_ok, nmX9, rfl, by decide +kernel, rfl⟩
theorem cp_X9_81 : gk_P RX9 81 9 32 true (.array .int) := ⟨RX9, TX9, 35, tyX9, rfl, inX9, by decide, fm_at 835 (by decide +kernel) (by decide +kernel), tyX9_ok, nmX9, rfl, by decide +kernel, rfl⟩
theorem cp_X9_84 : gk_P RX9 84 9 33 true (.array .int) := ⟨RX9, TX9, 35, tyX9, rfl, inX9, by decide, fm_at 836 (by decide +kernel) (by decide +kernel), tyX9_ok, nmX9, rfl, by decide +kernel, rfl⟩
theorem cp_X9_87 : gk_P RX9 87 9 34 true (.array .long) := ⟨RX9, TX9, 35, tyX9, rfl, inX9, by decide, fm_at 837 (by decide +kernel) (by decide +kernel), tyX9_ok, nmX9, rfl, by decide +kernel, rfl⟩
