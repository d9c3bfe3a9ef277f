/-! printed by wip/whole/gencode.py: the law's blocks are its bytes -/
theorem ck_law_50 : pm_ckr code "QuestionDeskLaw" false pm_Ms cd_law 50 [[0, 0], [0], [3211, 0, 0, 0, 0, 0, 0, 0], [0, 0], [0]] = true := by decide +kernel
theorem ck_law_55 : pm_ckr code "QuestionDeskLaw" false pm_Ms cd_law 55 [[7122, 0], [0, 0], [0, 0, 0, 0, 0, 0, 0, 0, 0, 0, 0, 0], [0, 0], [0]] = true := by decide +kernel
theorem ck_law_60 : pm_ckr code "QuestionDeskLaw" false pm_Ms cd_law 60 [[3239, 0, 0, 0, 0, 0, 0, 0, 0, 0, 0, 0, 0], [0, 0], [0], [7134, 0], [0, 0]] = true := by decide +kernel
theorem ck_law_65 : pm_ckr code "QuestionDeskLaw" false pm_Ms cd_law 65 [[0, 4025, 0, 7138, 0], [0, 0], [0, 0, 0, 0, 0, 0, 4033, 0, 0, 0, 0, 0, 0, 7142, 0], [0, 0], [0, 0, 0, 0, 0, 0, 4042, 0, 0, 0, 0, 0, 0, 7154, 0]] = true := by decide +kernel
theorem ck_law_70 : pm_ckr code "QuestionDeskLaw" false pm_Ms cd_law 70 [[0, 0], [0, 0, 0, 0, 0, 0, 0, 0, 0, 0, 0, 4054, 0, 0, 0, 0, 0, 0, 0, 0, 0, 0, 0, 7166, 0], [0, 0], [0, 0, 0, 0, 0, 0, 0, 0, 0, 0, 0, 4062, 0, 0, 0, 0, 0, 0, 0, 0, 0, 0, 0, 7170, 0], [0, 0]] = true := by decide +kernel
