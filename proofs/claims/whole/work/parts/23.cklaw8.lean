/-! printed by wip/whole/gencode.py: all of the law's blocks -/
theorem ck_law : ∀ (b : Nat) (q : Nat × List Instr), cd_law[b]? = some q → ∃ hs, pm_bk code "QuestionDeskLaw" false pm_Ms cd_law b q.1 q.2 hs = true := by
  intro b q hq
  have hl : b < 125 := (List.getElem?_eq_some_iff.mp hq).1
  by_cases h0 : b < 5
  · exact pm_ckr_at ck_law_0 hq (by omega) (by show b < 0 + 5; omega)
  by_cases h5 : b < 10
  · exact pm_ckr_at ck_law_5 hq (by omega) (by show b < 5 + 5; omega)
  by_cases h10 : b < 15
  · exact pm_ckr_at ck_law_10 hq (by omega) (by show b < 10 + 5; omega)
  by_cases h15 : b < 20
  · exact pm_ckr_at ck_law_15 hq (by omega) (by show b < 15 + 5; omega)
  by_cases h20 : b < 25
  · exact pm_ckr_at ck_law_20 hq (by omega) (by show b < 20 + 5; omega)
  by_cases h25 : b < 30
  · exact pm_ckr_at ck_law_25 hq (by omega) (by show b < 25 + 5; omega)
  by_cases h30 : b < 35
  · exact pm_ckr_at ck_law_30 hq (by omega) (by show b < 30 + 5; omega)
  by_cases h35 : b < 40
  · exact pm_ckr_at ck_law_35 hq (by omega) (by show b < 35 + 5; omega)
  by_cases h40 : b < 45
  · exact pm_ckr_at ck_law_40 hq (by omega) (by show b < 40 + 5; omega)
  by_cases h45 : b < 50
  · exact pm_ckr_at ck_law_45 hq (by omega) (by show b < 45 + 5; omega)
  by_cases h50 : b < 55
  · exact pm_ckr_at ck_law_50 hq (by omega) (by show b < 50 + 5; omega)
  by_cases h55 : b < 60
  · exact pm_ckr_at ck_law_55 hq (by omega) (by show b < 55 + 5; omega)
  by_cases h60 : b < 65
  · exact pm_ckr_at ck_law_60 hq (by omega) (by show b < 60 + 5; omega)
  by_cases h65 : b < 70
  · exact pm_ckr_at ck_law_65 hq (by omega) (by show b < 65 + 5; omega)
  by_cases h70 : b < 75
  · exact pm_ckr_at ck_law_70 hq (by omega) (by show b < 70 + 5; omega)
  by_cases h75 : b < 80
  · exact pm_ckr_at ck_law_75 hq (by omega) (by show b < 75 + 5; omega)
  by_cases h80 : b < 85
  · exact pm_ckr_at ck_law_80 hq (by omega) (by show b < 80 + 5; omega)
  by_cases h85 : b < 90
  · exact pm_ckr_at ck_law_85 hq (by omega) (by show b < 85 + 5; omega)
  by_cases h90 : b < 95
  · exact pm_ckr_at ck_law_90 hq (by omega) (by show b < 90 + 5; omega)
  by_cases h95 : b < 100
  · exact pm_ckr_at ck_law_95 hq (by omega) (by show b < 95 + 5; omega)
  by_cases h100 : b < 105
  · exact pm_ckr_at ck_law_100 hq (by omega) (by show b < 100 + 5; omega)
  by_cases h105 : b < 110
  · exact pm_ckr_at ck_law_105 hq (by omega) (by show b < 105 + 5; omega)
  by_cases h110 : b < 115
  · exact pm_ckr_at ck_law_110 hq (by omega) (by show b < 110 + 5; omega)
  by_cases h115 : b < 120
  · exact pm_ckr_at ck_law_115 hq (by omega) (by show b < 115 + 5; omega)
  by_cases h120 : b < 125
  · exact pm_ckr_at ck_law_120 hq (by omega) (by show b < 120 + 5; omega)
  · omega
