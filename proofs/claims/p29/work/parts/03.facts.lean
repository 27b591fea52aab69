/-! what the tables say of the names: every word by its place -/
def kAW : List Cond := lw_tbl.filter goodWord
theorem kAW_of {w : Cond} {i : Nat} (h : lw_tbl[i]? = some w) (hg : goodWord w = true) : w ∈ kAW := List.mem_filter.mpr ⟨List.mem_of_getElem? h, hg⟩
theorem kAW_good : GoodIn kAW kAW := fun w h => ⟨h, good_of_word (List.mem_filter.mp h).2⟩
theorem kc_0 : lw_tbl[mpc 0]? = some (.code (my 0) (mbyt 0) (mnL 0) (mrt 0)) := by decide +kernel
theorem kc_1 : lw_tbl[mpc 1]? = some (.code (my 1) (mbyt 1) (mnL 1) (mrt 1)) := by decide +kernel
theorem kc_2 : lw_tbl[mpc 2]? = some (.code (my 2) (mbyt 2) (mnL 2) (mrt 2)) := by decide +kernel
theorem kc_3 : lw_tbl[mpc 3]? = some (.code (my 3) (mbyt 3) (mnL 3) (mrt 3)) := by decide +kernel
theorem kc_4 : lw_tbl[mpc 4]? = some (.code (my 4) (mbyt 4) (mnL 4) (mrt 4)) := by decide +kernel
theorem kc_5 : lw_tbl[mpc 5]? = some (.code (my 5) (mbyt 5) (mnL 5) (mrt 5)) := by decide +kernel
theorem kc_6 : lw_tbl[mpc 6]? = some (.code (my 6) (mbyt 6) (mnL 6) (mrt 6)) := by decide +kernel
theorem kc_7 : lw_tbl[mpc 7]? = some (.code (my 7) (mbyt 7) (mnL 7) (mrt 7)) := by decide +kernel
theorem kc_8 : lw_tbl[mpc 8]? = some (.code (my 8) (mbyt 8) (mnL 8) (mrt 8)) := by decide +kernel
theorem kc_9 : lw_tbl[mpc 9]? = some (.code (my 9) (mbyt 9) (mnL 9) (mrt 9)) := by decide +kernel
theorem kc_10 : lw_tbl[mpc 10]? = some (.code (my 10) (mbyt 10) (mnL 10) (mrt 10)) := by decide +kernel
theorem kc_11 : lw_tbl[mpc 11]? = some (.code (my 11) (mbyt 11) (mnL 11) (mrt 11)) := by decide +kernel
theorem kc_12 : lw_tbl[mpc 12]? = some (.code (my 12) (mbyt 12) (mnL 12) (mrt 12)) := by decide +kernel
theorem kc_13 : lw_tbl[mpc 13]? = some (.code (my 13) (mbyt 13) (mnL 13) (mrt 13)) := by decide +kernel
theorem kc_14 : lw_tbl[mpc 14]? = some (.code (my 14) (mbyt 14) (mnL 14) (mrt 14)) := by decide +kernel
theorem kc_15 : lw_tbl[mpc 15]? = some (.code (my 15) (mbyt 15) (mnL 15) (mrt 15)) := by decide +kernel
theorem kc_16 : lw_tbl[mpc 16]? = some (.code (my 16) (mbyt 16) (mnL 16) (mrt 16)) := by decide +kernel
theorem kc_17 : lw_tbl[mpc 17]? = some (.code (my 17) (mbyt 17) (mnL 17) (mrt 17)) := by decide +kernel
theorem kc_18 : lw_tbl[mpc 18]? = some (.code (my 18) (mbyt 18) (mnL 18) (mrt 18)) := by decide +kernel
theorem kc_19 : lw_tbl[mpc 19]? = some (.code (my 19) (mbyt 19) (mnL 19) (mrt 19)) := by decide +kernel
theorem kc_20 : lw_tbl[mpc 20]? = some (.code (my 20) (mbyt 20) (mnL 20) (mrt 20)) := by decide +kernel
theorem kc_21 : lw_tbl[mpc 21]? = some (.code (my 21) (mbyt 21) (mnL 21) (mrt 21)) := by decide +kernel
theorem kc_22 : lw_tbl[mpc 22]? = some (.code (my 22) (mbyt 22) (mnL 22) (mrt 22)) := by decide +kernel
theorem kc_23 : lw_tbl[mpc 23]? = some (.code (my 23) (mbyt 23) (mnL 23) (mrt 23)) := by decide +kernel
theorem kc_24 : lw_tbl[mpc 24]? = some (.code (my 24) (mbyt 24) (mnL 24) (mrt 24)) := by decide +kernel
theorem kc_25 : lw_tbl[mpc 25]? = some (.code (my 25) (mbyt 25) (mnL 25) (mrt 25)) := by decide +kernel
theorem kc_26 : lw_tbl[mpc 26]? = some (.code (my 26) (mbyt 26) (mnL 26) (mrt 26)) := by decide +kernel
theorem kc_27 : lw_tbl[mpc 27]? = some (.code (my 27) (mbyt 27) (mnL 27) (mrt 27)) := by decide +kernel
theorem kc_28 : lw_tbl[mpc 28]? = some (.code (my 28) (mbyt 28) (mnL 28) (mrt 28)) := by decide +kernel
theorem kc_29 : lw_tbl[mpc 29]? = some (.code (my 29) (mbyt 29) (mnL 29) (mrt 29)) := by decide +kernel
theorem kc_30 : lw_tbl[mpc 30]? = some (.code (my 30) (mbyt 30) (mnL 30) (mrt 30)) := by decide +kernel
theorem kc_31 : lw_tbl[mpc 31]? = some (.code (my 31) (mbyt 31) (mnL 31) (mrt 31)) := by decide +kernel
theorem kc_32 : lw_tbl[mpc 32]? = some (.code (my 32) (mbyt 32) (mnL 32) (mrt 32)) := by decide +kernel
theorem kc_33 : lw_tbl[mpc 33]? = some (.code (my 33) (mbyt 33) (mnL 33) (mrt 33)) := by decide +kernel
theorem kc_34 : lw_tbl[mpc 34]? = some (.code (my 34) (mbyt 34) (mnL 34) (mrt 34)) := by decide +kernel
theorem kc_35 : lw_tbl[mpc 35]? = some (.code (my 35) (mbyt 35) (mnL 35) (mrt 35)) := by decide +kernel
theorem kc_36 : lw_tbl[mpc 36]? = some (.code (my 36) (mbyt 36) (mnL 36) (mrt 36)) := by decide +kernel
theorem kc_37 : lw_tbl[mpc 37]? = some (.code (my 37) (mbyt 37) (mnL 37) (mrt 37)) := by decide +kernel
theorem kc_38 : lw_tbl[mpc 38]? = some (.code (my 38) (mbyt 38) (mnL 38) (mrt 38)) := by decide +kernel
theorem kc_39 : lw_tbl[mpc 39]? = some (.code (my 39) (mbyt 39) (mnL 39) (mrt 39)) := by decide +kernel
theorem kc_40 : lw_tbl[mpc 40]? = some (.code (my 40) (mbyt 40) (mnL 40) (mrt 40)) := by decide +kernel
theorem kc_41 : lw_tbl[mpc 41]? = some (.code (my 41) (mbyt 41) (mnL 41) (mrt 41)) := by decide +kernel
theorem kc_42 : lw_tbl[mpc 42]? = some (.code (my 42) (mbyt 42) (mnL 42) (mrt 42)) := by decide +kernel
theorem kc_43 : lw_tbl[mpc 43]? = some (.code (my 43) (mbyt 43) (mnL 43) (mrt 43)) := by decide +kernel
theorem kc_44 : lw_tbl[mpc 44]? = some (.code (my 44) (mbyt 44) (mnL 44) (mrt 44)) := by decide +kernel
theorem kc_45 : lw_tbl[mpc 45]? = some (.code (my 45) (mbyt 45) (mnL 45) (mrt 45)) := by decide +kernel
theorem kc_46 : lw_tbl[mpc 46]? = some (.code (my 46) (mbyt 46) (mnL 46) (mrt 46)) := by decide +kernel
theorem kc_47 : lw_tbl[mpc 47]? = some (.code (my 47) (mbyt 47) (mnL 47) (mrt 47)) := by decide +kernel
theorem kc_48 : lw_tbl[mpc 48]? = some (.code (my 48) (mbyt 48) (mnL 48) (mrt 48)) := by decide +kernel
theorem kc_49 : lw_tbl[mpc 49]? = some (.code (my 49) (mbyt 49) (mnL 49) (mrt 49)) := by decide +kernel
theorem kc_50 : lw_tbl[mpc 50]? = some (.code (my 50) (mbyt 50) (mnL 50) (mrt 50)) := by decide +kernel
theorem kc_51 : lw_tbl[mpc 51]? = some (.code (my 51) (mbyt 51) (mnL 51) (mrt 51)) := by decide +kernel
theorem kc_52 : lw_tbl[mpc 52]? = some (.code (my 52) (mbyt 52) (mnL 52) (mrt 52)) := by decide +kernel
theorem kc_53 : lw_tbl[mpc 53]? = some (.code (my 53) (mbyt 53) (mnL 53) (mrt 53)) := by decide +kernel
theorem kc_54 : lw_tbl[mpc 54]? = some (.code (my 54) (mbyt 54) (mnL 54) (mrt 54)) := by decide +kernel
theorem kc_55 : lw_tbl[mpc 55]? = some (.code (my 55) (mbyt 55) (mnL 55) (mrt 55)) := by decide +kernel
theorem kc_56 : lw_tbl[mpc 56]? = some (.code (my 56) (mbyt 56) (mnL 56) (mrt 56)) := by decide +kernel
theorem kc_57 : lw_tbl[mpc 57]? = some (.code (my 57) (mbyt 57) (mnL 57) (mrt 57)) := by decide +kernel
theorem kc_58 : lw_tbl[mpc 58]? = some (.code (my 58) (mbyt 58) (mnL 58) (mrt 58)) := by decide +kernel
theorem kc_59 : lw_tbl[mpc 59]? = some (.code (my 59) (mbyt 59) (mnL 59) (mrt 59)) := by decide +kernel
theorem kc_60 : lw_tbl[mpc 60]? = some (.code (my 60) (mbyt 60) (mnL 60) (mrt 60)) := by decide +kernel
theorem kc_61 : lw_tbl[mpc 61]? = some (.code (my 61) (mbyt 61) (mnL 61) (mrt 61)) := by decide +kernel
theorem kc_62 : lw_tbl[mpc 62]? = some (.code (my 62) (mbyt 62) (mnL 62) (mrt 62)) := by decide +kernel
theorem kc_63 : lw_tbl[mpc 63]? = some (.code (my 63) (mbyt 63) (mnL 63) (mrt 63)) := by decide +kernel
theorem kc_64 : lw_tbl[mpc 64]? = some (.code (my 64) (mbyt 64) (mnL 64) (mrt 64)) := by decide +kernel
theorem kc_65 : lw_tbl[mpc 65]? = some (.code (my 65) (mbyt 65) (mnL 65) (mrt 65)) := by decide +kernel
theorem kc_66 : lw_tbl[mpc 66]? = some (.code (my 66) (mbyt 66) (mnL 66) (mrt 66)) := by decide +kernel
theorem kc_67 : lw_tbl[mpc 67]? = some (.code (my 67) (mbyt 67) (mnL 67) (mrt 67)) := by decide +kernel
theorem kc_68 : lw_tbl[mpc 68]? = some (.code (my 68) (mbyt 68) (mnL 68) (mrt 68)) := by decide +kernel
theorem kc_69 : lw_tbl[mpc 69]? = some (.code (my 69) (mbyt 69) (mnL 69) (mrt 69)) := by decide +kernel
theorem kc_70 : lw_tbl[mpc 70]? = some (.code (my 70) (mbyt 70) (mnL 70) (mrt 70)) := by decide +kernel
theorem kc_71 : lw_tbl[mpc 71]? = some (.code (my 71) (mbyt 71) (mnL 71) (mrt 71)) := by decide +kernel
theorem kc_72 : lw_tbl[mpc 72]? = some (.code (my 72) (mbyt 72) (mnL 72) (mrt 72)) := by decide +kernel
theorem kc_73 : lw_tbl[mpc 73]? = some (.code (my 73) (mbyt 73) (mnL 73) (mrt 73)) := by decide +kernel
theorem kc_74 : lw_tbl[mpc 74]? = some (.code (my 74) (mbyt 74) (mnL 74) (mrt 74)) := by decide +kernel
theorem kc_75 : lw_tbl[mpc 75]? = some (.code (my 75) (mbyt 75) (mnL 75) (mrt 75)) := by decide +kernel
theorem kc_76 : lw_tbl[mpc 76]? = some (.code (my 76) (mbyt 76) (mnL 76) (mrt 76)) := by decide +kernel
theorem kc_77 : lw_tbl[mpc 77]? = some (.code (my 77) (mbyt 77) (mnL 77) (mrt 77)) := by decide +kernel
theorem kc_78 : lw_tbl[mpc 78]? = some (.code (my 78) (mbyt 78) (mnL 78) (mrt 78)) := by decide +kernel
theorem kc_79 : lw_tbl[mpc 79]? = some (.code (my 79) (mbyt 79) (mnL 79) (mrt 79)) := by decide +kernel
theorem kc_80 : lw_tbl[mpc 80]? = some (.code (my 80) (mbyt 80) (mnL 80) (mrt 80)) := by decide +kernel
theorem kc_81 : lw_tbl[mpc 81]? = some (.code (my 81) (mbyt 81) (mnL 81) (mrt 81)) := by decide +kernel
theorem kc_82 : lw_tbl[mpc 82]? = some (.code (my 82) (mbyt 82) (mnL 82) (mrt 82)) := by decide +kernel
theorem kc_83 : lw_tbl[mpc 83]? = some (.code (my 83) (mbyt 83) (mnL 83) (mrt 83)) := by decide +kernel
theorem kc_84 : lw_tbl[mpc 84]? = some (.code (my 84) (mbyt 84) (mnL 84) (mrt 84)) := by decide +kernel
theorem kc_86 : lw_tbl[mpc 86]? = some (.code (my 86) (mbyt 86) (mnL 86) (mrt 86)) := by decide +kernel
theorem kc_87 : lw_tbl[mpc 87]? = some (.code (my 87) (mbyt 87) (mnL 87) (mrt 87)) := by decide +kernel
theorem kc_88 : lw_tbl[mpc 88]? = some (.code (my 88) (mbyt 88) (mnL 88) (mrt 88)) := by decide +kernel
theorem kc_89 : lw_tbl[mpc 89]? = some (.code (my 89) (mbyt 89) (mnL 89) (mrt 89)) := by decide +kernel
theorem kc_90 : lw_tbl[mpc 90]? = some (.code (my 90) (mbyt 90) (mnL 90) (mrt 90)) := by decide +kernel
theorem kc_91 : lw_tbl[mpc 91]? = some (.code (my 91) (mbyt 91) (mnL 91) (mrt 91)) := by decide +kernel
theorem kc_92 : lw_tbl[mpc 92]? = some (.code (my 92) (mbyt 92) (mnL 92) (mrt 92)) := by decide +kernel
theorem kc_93 : lw_tbl[mpc 93]? = some (.code (my 93) (mbyt 93) (mnL 93) (mrt 93)) := by decide +kernel
theorem kc_94 : lw_tbl[mpc 94]? = some (.code (my 94) (mbyt 94) (mnL 94) (mrt 94)) := by decide +kernel
theorem kc_95 : lw_tbl[mpc 95]? = some (.code (my 95) (mbyt 95) (mnL 95) (mrt 95)) := by decide +kernel
theorem kc_96 : lw_tbl[mpc 96]? = some (.code (my 96) (mbyt 96) (mnL 96) (mrt 96)) := by decide +kernel
theorem kc_97 : lw_tbl[mpc 97]? = some (.code (my 97) (mbyt 97) (mnL 97) (mrt 97)) := by decide +kernel
theorem kc_98 : lw_tbl[mpc 98]? = some (.code (my 98) (mbyt 98) (mnL 98) (mrt 98)) := by decide +kernel
theorem kc_99 : lw_tbl[mpc 99]? = some (.code (my 99) (mbyt 99) (mnL 99) (mrt 99)) := by decide +kernel
theorem kT_code : ∀ m, m < 100 → m ≠ 85 → lw_tbl[mpc m]? = some (.code (my m) (mbyt m) (mnL m) (mrt m)) :=
  lt_s (lt_s (lt_s (lt_s (lt_s (lt_s (lt_s (lt_s (lt_s (lt_s (lt_s (lt_s (lt_s (lt_s (lt_s (lt_s (lt_s (lt_s (lt_s (lt_s (lt_s (lt_s (lt_s (lt_s (lt_s (lt_s (lt_s (lt_s (lt_s (lt_s (lt_s (lt_s (lt_s (lt_s (lt_s (lt_s (lt_s (lt_s (lt_s (lt_s (lt_s (lt_s (lt_s (lt_s (lt_s (lt_s (lt_s (lt_s (lt_s (lt_s (lt_s (lt_s (lt_s (lt_s (lt_s (lt_s (lt_s (lt_s (lt_s (lt_s (lt_s (lt_s (lt_s (lt_s (lt_s (lt_s (lt_s (lt_s (lt_s (lt_s (lt_s (lt_s (lt_s (lt_s (lt_s (lt_s (lt_s (lt_s (lt_s (lt_s (lt_s (lt_s (lt_s (lt_s (lt_s (lt_s (lt_s (lt_s (lt_s (lt_s (lt_s (lt_s (lt_s (lt_s (lt_s (lt_s (lt_s (lt_s (lt_s (lt_s (lt_0) (fun _ => kc_0)) (fun _ => kc_1)) (fun _ => kc_2)) (fun _ => kc_3)) (fun _ => kc_4)) (fun _ => kc_5)) (fun _ => kc_6)) (fun _ => kc_7)) (fun _ => kc_8)) (fun _ => kc_9)) (fun _ => kc_10)) (fun _ => kc_11)) (fun _ => kc_12)) (fun _ => kc_13)) (fun _ => kc_14)) (fun _ => kc_15)) (fun _ => kc_16)) (fun _ => kc_17)) (fun _ => kc_18)) (fun _ => kc_19)) (fun _ => kc_20)) (fun _ => kc_21)) (fun _ => kc_22)) (fun _ => kc_23)) (fun _ => kc_24)) (fun _ => kc_25)) (fun _ => kc_26)) (fun _ => kc_27)) (fun _ => kc_28)) (fun _ => kc_29)) (fun _ => kc_30)) (fun _ => kc_31)) (fun _ => kc_32)) (fun _ => kc_33)) (fun _ => kc_34)) (fun _ => kc_35)) (fun _ => kc_36)) (fun _ => kc_37)) (fun _ => kc_38)) (fun _ => kc_39)) (fun _ => kc_40)) (fun _ => kc_41)) (fun _ => kc_42)) (fun _ => kc_43)) (fun _ => kc_44)) (fun _ => kc_45)) (fun _ => kc_46)) (fun _ => kc_47)) (fun _ => kc_48)) (fun _ => kc_49)) (fun _ => kc_50)) (fun _ => kc_51)) (fun _ => kc_52)) (fun _ => kc_53)) (fun _ => kc_54)) (fun _ => kc_55)) (fun _ => kc_56)) (fun _ => kc_57)) (fun _ => kc_58)) (fun _ => kc_59)) (fun _ => kc_60)) (fun _ => kc_61)) (fun _ => kc_62)) (fun _ => kc_63)) (fun _ => kc_64)) (fun _ => kc_65)) (fun _ => kc_66)) (fun _ => kc_67)) (fun _ => kc_68)) (fun _ => kc_69)) (fun _ => kc_70)) (fun _ => kc_71)) (fun _ => kc_72)) (fun _ => kc_73)) (fun _ => kc_74)) (fun _ => kc_75)) (fun _ => kc_76)) (fun _ => kc_77)) (fun _ => kc_78)) (fun _ => kc_79)) (fun _ => kc_80)) (fun _ => kc_81)) (fun _ => kc_82)) (fun _ => kc_83)) (fun _ => kc_84)) (fun h => absurd rfl h)) (fun _ => kc_86)) (fun _ => kc_87)) (fun _ => kc_88)) (fun _ => kc_89)) (fun _ => kc_90)) (fun _ => kc_91)) (fun _ => kc_92)) (fun _ => kc_93)) (fun _ => kc_94)) (fun _ => kc_95)) (fun _ => kc_96)) (fun _ => kc_97)) (fun _ => kc_98)) (fun _ => kc_99)
theorem kT_init : ∀ m, m < 100 → lw_tbl[mpi m]? = some (.initialized (my m).cls) := by decide +kernel
theorem kT_own1 : ∀ m, m < 100 → (my m).cls = cow (mow m) := by decide +kernel
theorem kT_own2 : ∀ m, m < 100 → plainName (my m).cls = true := by decide +kernel
theorem kT_own3 : ∀ m, m < 100 → (my m).cls ≠ "java/lang/invoke/MethodHandle" ∧ (my m).cls ≠ "java/lang/invoke/VarHandle" := by decide +kernel
theorem kT_own4 : ∀ m, m < 100 → (parseMethodDescriptor (my m).desc).map (fun d => d.parameters.length) = some (mna m) := by decide +kernel
theorem kT_fld : ∀ q ∈ kfT, q.2.2.1 < 5 → ∀ r, vwCl[q.2.2.1]? = some r → lw_tbl[q.2.2.2.2]? = some (.fieldLink (cow q.1) q.2.1 r.1 (r.2.1 q.2.2.2.1).2.1 (r.2.1 q.2.2.2.1).2.2.1) ∧ q.2.2.2.1 < r.2.2 ∧ (r.2.1 q.2.2.2.1).1 = r.1 := by
  intro q hq
  have h : ∀ q ∈ kfT, q.2.2.1 < 5 → (vwCl[q.2.2.1]?).elim true (fun r => decide (lw_tbl[q.2.2.2.2]? = some (.fieldLink (cow q.1) q.2.1 r.1 (r.2.1 q.2.2.2.1).2.1 (r.2.1 q.2.2.2.1).2.2.1) ∧ q.2.2.2.1 < r.2.2 ∧ (r.2.1 q.2.2.2.1).1 = r.1)) = true := by decide +kernel
  intro h6 r hr
  have h1 := h q hq h6
  rw [hr] at h1
  exact of_decide_eq_true h1
theorem kT_fldS : ∀ q ∈ kfT, ¬ q.2.2.1 < 5 → (q.2.2.2.1 = 0 ∧ lw_tbl[q.2.2.2.2]? = some (.fieldLink (cow q.1) q.2.1 "java/lang/String" "value" "[B")) ∨ (q.2.2.2.1 = 1 ∧ lw_tbl[q.2.2.2.2]? = some (.fieldLink (cow q.1) q.2.1 "java/lang/String" "coder" "B")) := by decide +kernel
theorem kT_cal : ∀ q ∈ kcT, q.2.2.2.1 < 100 ∧ q.2.2.2.1 ≠ 85 ∧
    ((q.2.2.1 = 0 ∧ lw_tbl[q.2.2.2.2.1]? = some (.methodLink (cow q.1) q.2.1 (my q.2.2.2.1)) ∧ lw_tbl[q.2.2.2.2.2.1]? = some (.instanceMethod (my q.2.2.2.1)) ∧ lw_tbl[q.2.2.2.2.2.2]? = some (.selects (my q.2.2.2.1).cls (my q.2.2.2.1) (my q.2.2.2.1)))
    ∨ (q.2.2.1 = 1 ∧ lw_tbl[q.2.2.2.2.1]? = some (.methodLink (cow q.1) q.2.1 (my q.2.2.2.1)) ∧ lw_tbl[q.2.2.2.2.2.1]? = some (.static (my q.2.2.2.1)))
    ∨ (q.2.2.1 = 2 ∧ lw_tbl[q.2.2.2.2.1]? = some (.methodLinkNest (cow q.1) q.2.1 (my q.2.2.2.1) "SneezeKing") ∧ lw_tbl[q.2.2.2.2.2.1]? = some (.static (my q.2.2.2.1)))) := by decide +kernel
theorem kT_int : ∀ q ∈ kiT, lw_tbl[q.2.2.2]? = some (.constant (cow q.1) q.2.1 q.2.2.1) := by decide +kernel
theorem kT_lng : ∀ q ∈ klT, lw_tbl[q.2.2.2]? = some (.constantLong (cow q.1) q.2.1 q.2.2.1) := by decide +kernel
theorem kT_gst : lw_tbl[kgs.2.2]? = some (.fieldLink (cow kgs.1) kgs.2.1 "java/lang/String" "COMPACT_STRINGS" "Z") := by decide +kernel
theorem kT_mmx : ∀ q ∈ kmT, (q.2.2.1 = 0 ∧ lw_tbl[q.2.2.2.1]? = some (.methodLink (cow q.1) q.2.1 Lib.Math.max.name) ∧ lw_tbl[q.2.2.2.2.1]? = some (.static Lib.Math.max.name) ∧ lw_tbl[q.2.2.2.2.2]? = some (.code Lib.Math.max.name Lib.Math.max.code 2 (some .int))) ∨ (q.2.2.1 = 1 ∧ lw_tbl[q.2.2.2.1]? = some (.methodLink (cow q.1) q.2.1 Lib.Math.min.name) ∧ lw_tbl[q.2.2.2.2.1]? = some (.static Lib.Math.min.name) ∧ lw_tbl[q.2.2.2.2.2]? = some (.code Lib.Math.min.name Lib.Math.min.code 2 (some .int))) := by decide +kernel
theorem kT_mini : lw_tbl[kmi]? = some (.initialized "java/lang/Math") := by decide +kernel
