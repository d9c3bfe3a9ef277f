/-! printed by wip/whole/gencode.py: the law's blocks are its bytes -/
theorem ck_law_50 : pm_ckr code "QuestionDeskLaw" false pm_Ms cd_law 50 [[0, 0], [0], [3210, 0, 0, 0, 0, 0, 0, 0], [0, 0], [0]] = true := by decide +kernel
theorem ck_law_55 : pm_ckr code "QuestionDeskLaw" false pm_Ms cd_law 55 [[7113, 0], [0, 0], [0, 0, 0, 0, 0, 0, 0, 0, 0, 0, 0, 0], [0, 0], [0]] = true := by decide +kernel
theorem ck_law_60 : pm_ckr code "QuestionDeskLaw" false pm_Ms cd_law 60 [[3238, 0, 0, 0, 0, 0, 0, 0, 0, 0, 0, 0, 0], [0, 0], [0], [7125, 0], [0, 0]] = true := by decide +kernel
theorem ck_law_65 : pm_ckr code "QuestionDeskLaw" false pm_Ms cd_law 65 [[0, 4024, 0, 7129, 0], [0, 0], [0, 0, 0, 0, 0, 0, 4032, 0, 0, 0, 0, 0, 0, 7133, 0], [0, 0], [0, 0, 0, 0, 0, 0, 4041, 0, 0, 0, 0, 0, 0, 7145, 0]] = true := by decide +kernel
theorem ck_law_70 : pm_ckr code "QuestionDeskLaw" false pm_Ms cd_law 70 [[0, 0], [0, 0, 0, 0, 0, 0, 0, 0, 0, 0, 0, 4053, 0, 0, 0, 0, 0, 0, 0, 0, 0, 0, 0, 7157, 0], [0, 0], [0, 0, 0, 0, 0, 0, 0, 0, 0, 0, 0, 4061, 0, 0, 0, 0, 0, 0, 0, 0, 0, 0, 0, 7161, 0], [0, 0]] = true := by decide +kernel
