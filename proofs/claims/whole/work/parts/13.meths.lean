theorem mx_nwi {i : Nat} {w : Cond} (h : (match w with | .fieldLinkNest _ _ _ _ _ _ => lw_tbl[i]? == some w | .methodLinkNest _ _ _ _ => lw_tbl[i]? == some w | _ => false) = true) : w ∈ mx_nw := by
  cases w <;> first | exact Bool.noConfusion (show false = true from h) | exact List.mem_filter.mpr ⟨List.mem_of_getElem? (beq_iff_eq.mp h), rfl⟩
def dm_X0_init : Md := (yX0_init, cX0_init, 1, none, 0)
theorem ow_X0_init : mx_own dm_X0_init := ⟨by decide +kernel, by decide +kernel⟩
theorem md_X0_init : mx_D dm_X0_init 0 := ⟨mx_gw (i := 169) (by decide +kernel), mx_gw (i := 60) (by decide +kernel), by decide +kernel, by decide +kernel⟩
def dm_X0_becomeNew : Md := (yX0_becomeNew, cX0_becomeNew, 3, none, 0)
theorem ow_X0_becomeNew : mx_own dm_X0_becomeNew := ⟨by decide +kernel, by decide +kernel⟩
theorem md_X0_becomeNew : mx_D dm_X0_becomeNew 2 := ⟨mx_gw (i := 359) (by decide +kernel), mx_gw (i := 60) (by decide +kernel), by decide +kernel, by decide +kernel⟩
def dm_X0_becomeLike : Md := (yX0_becomeLike, cX0_becomeLike, 2, none, 0)
theorem ow_X0_becomeLike : mx_own dm_X0_becomeLike := ⟨by decide +kernel, by decide +kernel⟩
theorem md_X0_becomeLike : mx_D dm_X0_becomeLike 1 := ⟨mx_gw (i := 497) (by decide +kernel), mx_gw (i := 60) (by decide +kernel), by decide +kernel, by decide +kernel⟩
def dm_X0_isOf : Md := (yX0_isOf, cX0_isOf, 4, (some .boolean), 0)
theorem ow_X0_isOf : mx_own dm_X0_isOf := ⟨by decide +kernel, by decide +kernel⟩
theorem md_X0_isOf : mx_D dm_X0_isOf 1 := ⟨mx_gw (i := 419) (by decide +kernel), mx_gw (i := 60) (by decide +kernel), by decide +kernel, by decide +kernel⟩
def dm_X0_worth : Md := (yX0_worth, cX0_worth, 1, (some .int), 0)
theorem ow_X0_worth : mx_own dm_X0_worth := ⟨by decide +kernel, by decide +kernel⟩
theorem md_X0_worth : mx_D dm_X0_worth 0 := ⟨mx_gw (i := 371) (by decide +kernel), mx_gw (i := 60) (by decide +kernel), by decide +kernel, by decide +kernel⟩
def dm_X0_birthsByKind : Md := (yX0_birthsByKind, cX0_birthsByKind, 2, (some .int), 0)
theorem ow_X0_birthsByKind : mx_own dm_X0_birthsByKind := ⟨by decide +kernel, by decide +kernel⟩
theorem md_X0_birthsByKind : mx_D dm_X0_birthsByKind 1 := ⟨mx_gw (i := 411) (by decide +kernel), mx_gw (i := 60) (by decide +kernel), by decide +kernel, by decide +kernel⟩
def dm_X0_hideOne : Md := (yX0_hideOne, cX0_hideOne, 1, none, 0)
theorem ow_X0_hideOne : mx_own dm_X0_hideOne := ⟨by decide +kernel, by decide +kernel⟩
theorem md_X0_hideOne : mx_D dm_X0_hideOne 0 := ⟨mx_gw (i := 441) (by decide +kernel), mx_gw (i := 60) (by decide +kernel), by decide +kernel, by decide +kernel⟩
def dm_X0_beginWeek : Md := (yX0_beginWeek, cX0_beginWeek, 1, none, 0)
theorem ow_X0_beginWeek : mx_own dm_X0_beginWeek := ⟨by decide +kernel, by decide +kernel⟩
theorem md_X0_beginWeek : mx_D dm_X0_beginWeek 0 := ⟨mx_gw (i := 480) (by decide +kernel), mx_gw (i := 60) (by decide +kernel), by decide +kernel, by decide +kernel⟩
def dm_X1_init : Md := (yX1_init, cX1_init, 1, none, 1)
theorem ow_X1_init : mx_own dm_X1_init := ⟨by decide +kernel, by decide +kernel⟩
theorem md_X1_init : mx_D dm_X1_init 0 := ⟨mx_gw (i := 89) (by decide +kernel), mx_gw (i := 57) (by decide +kernel), by decide +kernel, by decide +kernel⟩
def dm_X1_becomeNew : Md := (yX1_becomeNew, cX1_becomeNew, 2, none, 1)
theorem ow_X1_becomeNew : mx_own dm_X1_becomeNew := ⟨by decide +kernel, by decide +kernel⟩
theorem md_X1_becomeNew : mx_D dm_X1_becomeNew 1 := ⟨mx_gw (i := 676) (by decide +kernel), mx_gw (i := 57) (by decide +kernel), by decide +kernel, by decide +kernel⟩
def dm_X1_becomeLike : Md := (yX1_becomeLike, cX1_becomeLike, 2, none, 1)
theorem ow_X1_becomeLike : mx_own dm_X1_becomeLike := ⟨by decide +kernel, by decide +kernel⟩
theorem md_X1_becomeLike : mx_D dm_X1_becomeLike 1 := ⟨mx_gw (i := 785) (by decide +kernel), mx_gw (i := 57) (by decide +kernel), by decide +kernel, by decide +kernel⟩
def dm_X1_addAtom : Md := (yX1_addAtom, cX1_addAtom, 2, none, 1)
theorem ow_X1_addAtom : mx_own dm_X1_addAtom := ⟨by decide +kernel, by decide +kernel⟩
theorem md_X1_addAtom : mx_D dm_X1_addAtom 1 := ⟨mx_gw (i := 692) (by decide +kernel), mx_gw (i := 57) (by decide +kernel), by decide +kernel, by decide +kernel⟩
def dm_X1_addSign : Md := (yX1_addSign, cX1_addSign, 2, none, 1)
theorem ow_X1_addSign : mx_own dm_X1_addSign := ⟨by decide +kernel, by decide +kernel⟩
theorem md_X1_addSign : mx_D dm_X1_addSign 1 := ⟨mx_gw (i := 769) (by decide +kernel), mx_gw (i := 57) (by decide +kernel), by decide +kernel, by decide +kernel⟩
def dm_X1_addStep : Md := (yX1_addStep, cX1_addStep, 2, none, 1)
theorem ow_X1_addStep : mx_own dm_X1_addStep := ⟨by decide +kernel, by decide +kernel⟩
theorem md_X1_addStep : mx_D dm_X1_addStep 1 := ⟨mx_gw (i := 696) (by decide +kernel), mx_gw (i := 57) (by decide +kernel), by decide +kernel, by decide +kernel⟩
def dm_X2_init : Md := (yX2_init, cX2_init, 1, none, 2)
theorem ow_X2_init : mx_own dm_X2_init := ⟨by decide +kernel, by decide +kernel⟩
theorem md_X2_init : mx_D dm_X2_init 0 := ⟨mx_gw (i := 83) (by decide +kernel), mx_gw (i := 56) (by decide +kernel), by decide +kernel, by decide +kernel⟩
def dm_X2_understands : Md := (yX2_understands, cX2_understands, 5, (some .boolean), 2)
theorem ow_X2_understands : mx_own dm_X2_understands := ⟨by decide +kernel, by decide +kernel⟩
theorem md_X2_understands : mx_D dm_X2_understands 3 := ⟨mx_gw (i := 601) (by decide +kernel), mx_gw (i := 56) (by decide +kernel), by decide +kernel, by decide +kernel⟩
def dm_X2_takesLevel : Md := (yX2_takesLevel, cX2_takesLevel, 6, (some .boolean), 2)
theorem ow_X2_takesLevel : mx_own dm_X2_takesLevel := ⟨by decide +kernel, by decide +kernel⟩
theorem md_X2_takesLevel : mx_D dm_X2_takesLevel 3 := ⟨mx_gw (i := 680) (by decide +kernel), mx_gw (i := 56) (by decide +kernel), by decide +kernel, by decide +kernel⟩
def dm_X2_takesPiece : Md := (yX2_takesPiece, cX2_takesPiece, 3, (some .boolean), 2)
theorem ow_X2_takesPiece : mx_own dm_X2_takesPiece := ⟨by decide +kernel, by decide +kernel⟩
theorem md_X2_takesPiece : mx_D dm_X2_takesPiece 2 := ⟨mx_gw (i := 684) (by decide +kernel), mx_gw (i := 56) (by decide +kernel), by decide +kernel, by decide +kernel⟩
def dm_X2_takesNumber : Md := (yX2_takesNumber, cX2_takesNumber, 3, (some .boolean), 2)
theorem ow_X2_takesNumber : mx_own dm_X2_takesNumber := ⟨by decide +kernel, by decide +kernel⟩
theorem md_X2_takesNumber : mx_D dm_X2_takesNumber 0 := ⟨mx_gw (i := 688) (by decide +kernel), mx_gw (i := 56) (by decide +kernel), by decide +kernel, by decide +kernel⟩
def dm_X2_takesName : Md := (yX2_takesName, cX2_takesName, 2, (some .boolean), 2)
theorem ow_X2_takesName : mx_own dm_X2_takesName := ⟨by decide +kernel, by decide +kernel⟩
theorem md_X2_takesName : mx_D dm_X2_takesName 0 := ⟨mx_gw (i := 700) (by decide +kernel), mx_gw (i := 56) (by decide +kernel), by decide +kernel, by decide +kernel⟩
def dm_X2_takesNot : Md := (yX2_takesNot, cX2_takesNot, 3, (some .boolean), 2)
theorem ow_X2_takesNot : mx_own dm_X2_takesNot := ⟨by decide +kernel, by decide +kernel⟩
theorem md_X2_takesNot : mx_D dm_X2_takesNot 2 := ⟨mx_gw (i := 765) (by decide +kernel), mx_gw (i := 56) (by decide +kernel), by decide +kernel, by decide +kernel⟩
def dm_X2_takesInner : Md := (yX2_takesInner, cX2_takesInner, 3, (some .boolean), 2)
theorem ow_X2_takesInner : mx_own dm_X2_takesInner := ⟨by decide +kernel, by decide +kernel⟩
theorem md_X2_takesInner : mx_D dm_X2_takesInner 2 := ⟨mx_gw (i := 773) (by decide +kernel), mx_gw (i := 56) (by decide +kernel), by decide +kernel, by decide +kernel⟩
def dm_X2_levelOf : Md := (yX2_levelOf, cX2_levelOf, 1, (some .int), 2)
theorem ow_X2_levelOf : mx_own dm_X2_levelOf := ⟨by decide +kernel, by decide +kernel⟩
theorem md_X2_levelOf : mx_D dm_X2_levelOf 1 := ⟨mx_gw (i := 776) (by decide +kernel), mx_gw (i := 56) (by decide +kernel), by decide +kernel, by decide +kernel⟩
def dm_X2_namesOf : Md := (yX2_namesOf, cX2_namesOf, 1, (some (.object "java/lang/String")), 2)
theorem ow_X2_namesOf : mx_own dm_X2_namesOf := ⟨by decide +kernel, by decide +kernel⟩
theorem md_X2_namesOf : mx_D dm_X2_namesOf 1 := ⟨mx_gw (i := 703) (by decide +kernel), mx_gw (i := 56) (by decide +kernel), by decide +kernel, by decide +kernel⟩
def dm_X2_keyHere : Md := (yX2_keyHere, cX2_keyHere, 1, (some .int), 2)
theorem ow_X2_keyHere : mx_own dm_X2_keyHere := ⟨by decide +kernel, by decide +kernel⟩
theorem md_X2_keyHere : mx_D dm_X2_keyHere 0 := ⟨mx_gw (i := 617) (by decide +kernel), mx_gw (i := 56) (by decide +kernel), by decide +kernel, by decide +kernel⟩
def dm_X2_spells : Md := (yX2_spells, cX2_spells, 3, (some .boolean), 2)
theorem ow_X2_spells : mx_own dm_X2_spells := ⟨by decide +kernel, by decide +kernel⟩
theorem md_X2_spells : mx_D dm_X2_spells 1 := ⟨mx_gw (i := 622) (by decide +kernel), mx_gw (i := 56) (by decide +kernel), by decide +kernel, by decide +kernel⟩
def dm_X2_goOn : Md := (yX2_goOn, cX2_goOn, 2, none, 2)
theorem ow_X2_goOn : mx_own dm_X2_goOn := ⟨by decide +kernel, by decide +kernel⟩
theorem md_X2_goOn : mx_D dm_X2_goOn 0 := ⟨mx_gw (i := 606) (by decide +kernel), mx_gw (i := 56) (by decide +kernel), by decide +kernel, by decide +kernel⟩
def dm_X2_sortOf : Md := (yX2_sortOf, cX2_sortOf, 1, (some .int), 2)
theorem ow_X2_sortOf : mx_own dm_X2_sortOf := ⟨by decide +kernel, by decide +kernel⟩
theorem md_X2_sortOf : mx_D dm_X2_sortOf 1 := ⟨mx_gw (i := 613) (by decide +kernel), mx_gw (i := 56) (by decide +kernel), by decide +kernel, by decide +kernel⟩
def dm_X2_byteAt : Md := (yX2_byteAt, cX2_byteAt, 2, (some .int), 2)
theorem ow_X2_byteAt : mx_own dm_X2_byteAt := ⟨by decide +kernel, by decide +kernel⟩
theorem md_X2_byteAt : mx_D dm_X2_byteAt 1 := ⟨mx_gw (i := 610) (by decide +kernel), mx_gw (i := 56) (by decide +kernel), by decide +kernel, by decide +kernel⟩
def dm_X3_init : Md := (yX3_init, cX3_init, 1, none, 3)
theorem ow_X3_init : mx_own dm_X3_init := ⟨by decide +kernel, by decide +kernel⟩
theorem md_X3_init : mx_D dm_X3_init 0 := ⟨mx_gw (i := 241) (by decide +kernel), mx_gw (i := 62) (by decide +kernel), by decide +kernel, by decide +kernel⟩
def dm_X3_gives : Md := (yX3_gives, cX3_gives, 8, (some .int), 3)
theorem ow_X3_gives : mx_own dm_X3_gives := ⟨by decide +kernel, by decide +kernel⟩
theorem md_X3_gives : mx_D dm_X3_gives 4 := ⟨mx_gw (i := 392) (by decide +kernel), mx_gw (i := 62) (by decide +kernel), by decide +kernel, by decide +kernel⟩
def dm_X3_named : Md := (yX3_named, cX3_named, 4, (some .int), 3)
theorem ow_X3_named : mx_own dm_X3_named := ⟨by decide +kernel, by decide +kernel⟩
theorem md_X3_named : mx_D dm_X3_named 4 := ⟨mx_gw (i := 395) (by decide +kernel), mx_gw (i := 62) (by decide +kernel), by decide +kernel, by decide +kernel⟩
def dm_X3_joined : Md := (yX3_joined, cX3_joined, 3, (some .int), 3)
theorem ow_X3_joined : mx_own dm_X3_joined := ⟨by decide +kernel, by decide +kernel⟩
theorem md_X3_joined : mx_D dm_X3_joined 3 := ⟨mx_gw (i := 398) (by decide +kernel), mx_gw (i := 62) (by decide +kernel), by decide +kernel, by decide +kernel⟩
def dm_X4_init : Md := (yX4_init, cX4_init, 1, none, 4)
theorem ow_X4_init : mx_own dm_X4_init := ⟨by decide +kernel, by decide +kernel⟩
theorem md_X4_init : mx_D dm_X4_init 0 := ⟨mx_gw (i := 145) (by decide +kernel), mx_gw (i := 58) (by decide +kernel), by decide +kernel, by decide +kernel⟩
def dm_X4_become : Md := (yX4_become, cX4_become, 4, none, 4)
theorem ow_X4_become : mx_own dm_X4_become := ⟨by decide +kernel, by decide +kernel⟩
theorem md_X4_become : mx_D dm_X4_become 2 := ⟨mx_gw (i := 804) (by decide +kernel), mx_gw (i := 58) (by decide +kernel), by decide +kernel, by decide +kernel⟩
def dm_X4_becomeLike : Md := (yX4_becomeLike, cX4_becomeLike, 2, none, 4)
theorem ow_X4_becomeLike : mx_own dm_X4_becomeLike := ⟨by decide +kernel, by decide +kernel⟩
theorem md_X4_becomeLike : mx_D dm_X4_becomeLike 1 := ⟨mx_gw (i := 842) (by decide +kernel), mx_gw (i := 58) (by decide +kernel), by decide +kernel, by decide +kernel⟩
def dm_X4_isMissing : Md := (yX4_isMissing, cX4_isMissing, 1, (some .boolean), 4)
theorem ow_X4_isMissing : mx_own dm_X4_isMissing := ⟨by decide +kernel, by decide +kernel⟩
theorem md_X4_isMissing : mx_D dm_X4_isMissing 0 := ⟨mx_gw (i := 545) (by decide +kernel), mx_gw (i := 58) (by decide +kernel), by decide +kernel, by decide +kernel⟩
def dm_X4_has : Md := (yX4_has, cX4_has, 2, (some .boolean), 4)
theorem ow_X4_has : mx_own dm_X4_has := ⟨by decide +kernel, by decide +kernel⟩
theorem md_X4_has : mx_D dm_X4_has 1 := ⟨mx_gw (i := 558) (by decide +kernel), mx_gw (i := 58) (by decide +kernel), by decide +kernel, by decide +kernel⟩
def dm_X4_hasRun : Md := (yX4_hasRun, cX4_hasRun, 3, (some .boolean), 4)
theorem ow_X4_hasRun : mx_own dm_X4_hasRun := ⟨by decide +kernel, by decide +kernel⟩
theorem md_X4_hasRun : mx_D dm_X4_hasRun 2 := ⟨mx_gw (i := 828) (by decide +kernel), mx_gw (i := 58) (by decide +kernel), by decide +kernel, by decide +kernel⟩
def dm_X4_isNumberAt : Md := (yX4_isNumberAt, cX4_isNumberAt, 2, (some .boolean), 4)
theorem ow_X4_isNumberAt : mx_own dm_X4_isNumberAt := ⟨by decide +kernel, by decide +kernel⟩
theorem md_X4_isNumberAt : mx_D dm_X4_isNumberAt 1 := ⟨mx_gw (i := 554) (by decide +kernel), mx_gw (i := 58) (by decide +kernel), by decide +kernel, by decide +kernel⟩
def dm_X4_hasNumberBehind : Md := (yX4_hasNumberBehind, cX4_hasNumberBehind, 3, (some .boolean), 4)
theorem ow_X4_hasNumberBehind : mx_own dm_X4_hasNumberBehind := ⟨by decide +kernel, by decide +kernel⟩
theorem md_X4_hasNumberBehind : mx_D dm_X4_hasNumberBehind 1 := ⟨mx_gw (i := 566) (by decide +kernel), mx_gw (i := 58) (by decide +kernel), by decide +kernel, by decide +kernel⟩
def dm_X5_init : Md := (yX5_init, cX5_init, 1, none, 5)
theorem ow_X5_init : mx_own dm_X5_init := ⟨by decide +kernel, by decide +kernel⟩
theorem md_X5_init : mx_D dm_X5_init 0 := ⟨mx_gw (i := 163) (by decide +kernel), mx_gw (i := 59) (by decide +kernel), by decide +kernel, by decide +kernel⟩
def dm_X6_init : Md := (yX6_init, cX6_init, 3, none, 6)
theorem ow_X6_init : mx_own dm_X6_init := ⟨by decide +kernel, by decide +kernel⟩
theorem md_X6_init : mx_D dm_X6_init 1 := ⟨mx_gw (i := 233) (by decide +kernel), mx_gw (i := 61) (by decide +kernel), by decide +kernel, by decide +kernel⟩
def dm_X6_becomeLike : Md := (yX6_becomeLike, cX6_becomeLike, 3, none, 6)
theorem ow_X6_becomeLike : mx_own dm_X6_becomeLike := ⟨by decide +kernel, by decide +kernel⟩
theorem md_X6_becomeLike : mx_D dm_X6_becomeLike 1 := ⟨mx_gw (i := 493) (by decide +kernel), mx_gw (i := 61) (by decide +kernel), by decide +kernel, by decide +kernel⟩
def dm_X6_has : Md := (yX6_has, cX6_has, 2, (some .boolean), 6)
theorem ow_X6_has : mx_own dm_X6_has := ⟨by decide +kernel, by decide +kernel⟩
theorem md_X6_has : mx_D dm_X6_has 1 := ⟨mx_gw (i := 367) (by decide +kernel), mx_gw (i := 61) (by decide +kernel), by decide +kernel, by decide +kernel⟩
def dm_X6_addDistrict : Md := (yX6_addDistrict, cX6_addDistrict, 3, none, 6)
theorem ow_X6_addDistrict : mx_own dm_X6_addDistrict := ⟨by decide +kernel, by decide +kernel⟩
theorem md_X6_addDistrict : mx_D dm_X6_addDistrict 2 := ⟨mx_gw (i := 355) (by decide +kernel), mx_gw (i := 61) (by decide +kernel), by decide +kernel, by decide +kernel⟩
def dm_X6_addLaw : Md := (yX6_addLaw, cX6_addLaw, 3, (some .int), 6)
theorem ow_X6_addLaw : mx_own dm_X6_addLaw := ⟨by decide +kernel, by decide +kernel⟩
theorem md_X6_addLaw : mx_D dm_X6_addLaw 1 := ⟨mx_gw (i := 780) (by decide +kernel), mx_gw (i := 61) (by decide +kernel), by decide +kernel, by decide +kernel⟩
def dm_X6_lawFor : Md := (yX6_lawFor, cX6_lawFor, 3, (some (.object "BirthWeeks$Law")), 6)
theorem ow_X6_lawFor : mx_own dm_X6_lawFor := ⟨by decide +kernel, by decide +kernel⟩
theorem md_X6_lawFor : mx_D dm_X6_lawFor 1 := ⟨mx_gw (i := 388) (by decide +kernel), mx_gw (i := 61) (by decide +kernel), by decide +kernel, by decide +kernel⟩
def dm_X6_draw : Md := (yX6_draw, cX6_draw, 1, (some .int), 6)
theorem ow_X6_draw : mx_own dm_X6_draw := ⟨by decide +kernel, by decide +kernel⟩
theorem md_X6_draw : mx_D dm_X6_draw 0 := ⟨mx_gw (i := 453) (by decide +kernel), mx_gw (i := 61) (by decide +kernel), by decide +kernel, by decide +kernel⟩
def dm_X6_fairAt : Md := (yX6_fairAt, cX6_fairAt, 2, (some .int), 6)
theorem ow_X6_fairAt : mx_own dm_X6_fairAt := ⟨by decide +kernel, by decide +kernel⟩
theorem md_X6_fairAt : mx_D dm_X6_fairAt 1 := ⟨mx_gw (i := 375) (by decide +kernel), mx_gw (i := 61) (by decide +kernel), by decide +kernel, by decide +kernel⟩
def dm_X6_fairs : Md := (yX6_fairs, cX6_fairs, 3, (some .int), 6)
theorem ow_X6_fairs : mx_own dm_X6_fairs := ⟨by decide +kernel, by decide +kernel⟩
theorem md_X6_fairs : mx_D dm_X6_fairs 0 := ⟨mx_gw (i := 867) (by decide +kernel), mx_gw (i := 61) (by decide +kernel), by decide +kernel, by decide +kernel⟩
def dm_X6_pursesOfAll : Md := (yX6_pursesOfAll, cX6_pursesOfAll, 3, (some .int), 6)
theorem ow_X6_pursesOfAll : mx_own dm_X6_pursesOfAll := ⟨by decide +kernel, by decide +kernel⟩
theorem md_X6_pursesOfAll : mx_D dm_X6_pursesOfAll 0 := ⟨mx_gw (i := 876) (by decide +kernel), mx_gw (i := 61) (by decide +kernel), by decide +kernel, by decide +kernel⟩
def dm_X6_bornOfAll : Md := (yX6_bornOfAll, cX6_bornOfAll, 3, (some .int), 6)
theorem ow_X6_bornOfAll : mx_own dm_X6_bornOfAll := ⟨by decide +kernel, by decide +kernel⟩
theorem md_X6_bornOfAll : mx_D dm_X6_bornOfAll 0 := ⟨mx_gw (i := 580) (by decide +kernel), mx_gw (i := 61) (by decide +kernel), by decide +kernel, by decide +kernel⟩
def dm_X6_birthsOf : Md := (yX6_birthsOf, cX6_birthsOf, 5, (some .int), 6)
theorem ow_X6_birthsOf : mx_own dm_X6_birthsOf := ⟨by decide +kernel, by decide +kernel⟩
theorem md_X6_birthsOf : mx_D dm_X6_birthsOf 2 := ⟨mx_gw (i := 384) (by decide +kernel), mx_gw (i := 61) (by decide +kernel), by decide +kernel, by decide +kernel⟩
def dm_X6_wageOf : Md := (yX6_wageOf, cX6_wageOf, 3, (some .int), 6)
theorem ow_X6_wageOf : mx_own dm_X6_wageOf := ⟨by decide +kernel, by decide +kernel⟩
theorem md_X6_wageOf : mx_D dm_X6_wageOf 1 := ⟨mx_gw (i := 476) (by decide +kernel), mx_gw (i := 61) (by decide +kernel), by decide +kernel, by decide +kernel⟩
def dm_X6_liveDay : Md := (yX6_liveDay, cX6_liveDay, 5, (some .int), 6)
theorem ow_X6_liveDay : mx_own dm_X6_liveDay := ⟨by decide +kernel, by decide +kernel⟩
theorem md_X6_liveDay : mx_D dm_X6_liveDay 1 := ⟨mx_gw (i := 466) (by decide +kernel), mx_gw (i := 61) (by decide +kernel), by decide +kernel, by decide +kernel⟩
def dm_X6_dayOf : Md := (yX6_dayOf, cX6_dayOf, 5, (some .int), 6)
theorem ow_X6_dayOf : mx_own dm_X6_dayOf := ⟨by decide +kernel, by decide +kernel⟩
theorem md_X6_dayOf : mx_D dm_X6_dayOf 2 := ⟨mx_gw (i := 471) (by decide +kernel), mx_gw (i := 61) (by decide +kernel), by decide +kernel, by decide +kernel⟩
def dm_X7_init : Md := (yX7_init, cX7_init, 3, none, 7)
theorem ow_X7_init : mx_own dm_X7_init := ⟨by decide +kernel, by decide +kernel⟩
theorem md_X7_init : mx_D dm_X7_init 0 := ⟨mx_gw (i := 75) (by decide +kernel), mx_gw (i := 55) (by decide +kernel), by decide +kernel, by decide +kernel⟩
def dm_X7_district : Md := (yX7_district, cX7_district, 3, (some .int), 7)
theorem ow_X7_district : mx_own dm_X7_district := ⟨by decide +kernel, by decide +kernel⟩
theorem md_X7_district : mx_D dm_X7_district 2 := ⟨mx_gw (i := 341) (by decide +kernel), mx_gw (i := 55) (by decide +kernel), by decide +kernel, by decide +kernel⟩
def dm_X7_told : Md := (yX7_told, cX7_told, 4, (some .int), 7)
theorem ow_X7_told : mx_own dm_X7_told := ⟨by decide +kernel, by decide +kernel⟩
theorem md_X7_told : mx_D dm_X7_told 2 := ⟨mx_gw (i := 363) (by decide +kernel), mx_gw (i := 55) (by decide +kernel), by decide +kernel, by decide +kernel⟩
def dm_X7_births : Md := (yX7_births, cX7_births, 3, (some .int), 7)
theorem ow_X7_births : mx_own dm_X7_births := ⟨by decide +kernel, by decide +kernel⟩
theorem md_X7_births : mx_D dm_X7_births 2 := ⟨mx_gw (i := 380) (by decide +kernel), mx_gw (i := 55) (by decide +kernel), by decide +kernel, by decide +kernel⟩
def dm_X7_as : Md := (yX7_as, cX7_as, 4, (some .int), 7)
theorem ow_X7_as : mx_own dm_X7_as := ⟨by decide +kernel, by decide +kernel⟩
theorem md_X7_as : mx_D dm_X7_as 2 := ⟨mx_gw (i := 415) (by decide +kernel), mx_gw (i := 55) (by decide +kernel), by decide +kernel, by decide +kernel⟩
def dm_X7_turns : Md := (yX7_turns, cX7_turns, 5, (some .int), 7)
theorem ow_X7_turns : mx_own dm_X7_turns := ⟨by decide +kernel, by decide +kernel⟩
theorem md_X7_turns : mx_D dm_X7_turns 2 := ⟨mx_gw (i := 426) (by decide +kernel), mx_gw (i := 55) (by decide +kernel), by decide +kernel, by decide +kernel⟩
def dm_X7_set : Md := (yX7_set, cX7_set, 6, (some .int), 7)
theorem ow_X7_set : mx_own dm_X7_set := ⟨by decide +kernel, by decide +kernel⟩
theorem md_X7_set : mx_D dm_X7_set 3 := ⟨mx_gw (i := 430) (by decide +kernel), mx_gw (i := 55) (by decide +kernel), by decide +kernel, by decide +kernel⟩
def dm_X7_hide : Md := (yX7_hide, cX7_hide, 3, (some .int), 7)
theorem ow_X7_hide : mx_own dm_X7_hide := ⟨by decide +kernel, by decide +kernel⟩
theorem md_X7_hide : mx_D dm_X7_hide 1 := ⟨mx_gw (i := 436) (by decide +kernel), mx_gw (i := 55) (by decide +kernel), by decide +kernel, by decide +kernel⟩
def dm_X7_rule : Md := (yX7_rule, cX7_rule, 4, (some .int), 7)
theorem ow_X7_rule : mx_own dm_X7_rule := ⟨by decide +kernel, by decide +kernel⟩
theorem md_X7_rule : mx_D dm_X7_rule 2 := ⟨mx_gw (i := 445) (by decide +kernel), mx_gw (i := 55) (by decide +kernel), by decide +kernel, by decide +kernel⟩
def dm_X7_deal : Md := (yX7_deal, cX7_deal, 6, (some .int), 7)
theorem ow_X7_deal : mx_own dm_X7_deal := ⟨by decide +kernel, by decide +kernel⟩
theorem md_X7_deal : mx_D dm_X7_deal 1 := ⟨mx_gw (i := 449) (by decide +kernel), mx_gw (i := 55) (by decide +kernel), by decide +kernel, by decide +kernel⟩
def dm_X7_seed : Md := (yX7_seed, cX7_seed, 3, (some .int), 7)
theorem ow_X7_seed : mx_own dm_X7_seed := ⟨by decide +kernel, by decide +kernel⟩
theorem md_X7_seed : mx_D dm_X7_seed 1 := ⟨mx_gw (i := 458) (by decide +kernel), mx_gw (i := 55) (by decide +kernel), by decide +kernel, by decide +kernel⟩
def dm_X7_days : Md := (yX7_days, cX7_days, 5, (some .int), 7)
theorem ow_X7_days : mx_own dm_X7_days := ⟨by decide +kernel, by decide +kernel⟩
theorem md_X7_days : mx_D dm_X7_days 1 := ⟨mx_gw (i := 462) (by decide +kernel), mx_gw (i := 55) (by decide +kernel), by decide +kernel, by decide +kernel⟩
def dm_X7_behind : Md := (yX7_behind, cX7_behind, 5, (some .int), 7)
theorem ow_X7_behind : mx_own dm_X7_behind := ⟨by decide +kernel, by decide +kernel⟩
theorem md_X7_behind : mx_D dm_X7_behind 3 := ⟨mx_gw (i := 485) (by decide +kernel), mx_gw (i := 55) (by decide +kernel), by decide +kernel, by decide +kernel⟩
def dm_X7_meets : Md := (yX7_meets, cX7_meets, 4, (some .int), 7)
theorem ow_X7_meets : mx_own dm_X7_meets := ⟨by decide +kernel, by decide +kernel⟩
theorem md_X7_meets : mx_D dm_X7_meets 2 := ⟨mx_gw (i := 508) (by decide +kernel), mx_gw (i := 55) (by decide +kernel), by decide +kernel, by decide +kernel⟩
def dm_X7_sundays : Md := (yX7_sundays, cX7_sundays, 5, (some .int), 7)
theorem ow_X7_sundays : mx_own dm_X7_sundays := ⟨by decide +kernel, by decide +kernel⟩
theorem md_X7_sundays : mx_D dm_X7_sundays 2 := ⟨mx_gw (i := 513) (by decide +kernel), mx_gw (i := 55) (by decide +kernel), by decide +kernel, by decide +kernel⟩
def dm_X7_trader : Md := (yX7_trader, cX7_trader, 4, (some .int), 7)
theorem ow_X7_trader : mx_own dm_X7_trader := ⟨by decide +kernel, by decide +kernel⟩
theorem md_X7_trader : mx_D dm_X7_trader 2 := ⟨mx_gw (i := 517) (by decide +kernel), mx_gw (i := 55) (by decide +kernel), by decide +kernel, by decide +kernel⟩
def dm_X7_richest : Md := (yX7_richest, cX7_richest, 4, (some .int), 7)
theorem ow_X7_richest : mx_own dm_X7_richest := ⟨by decide +kernel, by decide +kernel⟩
theorem md_X7_richest : mx_D dm_X7_richest 1 := ⟨mx_gw (i := 529) (by decide +kernel), mx_gw (i := 55) (by decide +kernel), by decide +kernel, by decide +kernel⟩
def dm_X7_brings : Md := (yX7_brings, cX7_brings, 4, (some .int), 7)
theorem ow_X7_brings : mx_own dm_X7_brings := ⟨by decide +kernel, by decide +kernel⟩
theorem md_X7_brings : mx_D dm_X7_brings 2 := ⟨mx_gw (i := 533) (by decide +kernel), mx_gw (i := 55) (by decide +kernel), by decide +kernel, by decide +kernel⟩
def dm_X7_rated : Md := (yX7_rated, cX7_rated, 9, (some .int), 7)
theorem ow_X7_rated : mx_own dm_X7_rated := ⟨by decide +kernel, by decide +kernel⟩
theorem md_X7_rated : mx_D dm_X7_rated 3 := ⟨mx_gw (i := 537) (by decide +kernel), mx_gw (i := 55) (by decide +kernel), by decide +kernel, by decide +kernel⟩
def dm_X7_fine : Md := (yX7_fine, cX7_fine, 2, (some .int), 7)
theorem ow_X7_fine : mx_own dm_X7_fine := ⟨by decide +kernel, by decide +kernel⟩
theorem md_X7_fine : mx_D dm_X7_fine 0 := ⟨mx_gw (i := 575) (by decide +kernel), mx_gw (i := 55) (by decide +kernel), by decide +kernel, by decide +kernel⟩
def dm_X7_feed : Md := (yX7_feed, cX7_feed, 4, (some .int), 7)
theorem ow_X7_feed : mx_own dm_X7_feed := ⟨by decide +kernel, by decide +kernel⟩
theorem md_X7_feed : mx_D dm_X7_feed 3 := ⟨mx_gw (i := 585) (by decide +kernel), mx_gw (i := 55) (by decide +kernel), by decide +kernel, by decide +kernel⟩
def dm_X7_trim : Md := (yX7_trim, cX7_trim, 2, (some .int), 7)
theorem ow_X7_trim : mx_own dm_X7_trim := ⟨by decide +kernel, by decide +kernel⟩
theorem md_X7_trim : mx_D dm_X7_trim 1 := ⟨mx_gw (i := 593) (by decide +kernel), mx_gw (i := 55) (by decide +kernel), by decide +kernel, by decide +kernel⟩
def dm_X7_text : Md := (yX7_text, cX7_text, 2, (some .int), 7)
theorem ow_X7_text : mx_own dm_X7_text := ⟨by decide +kernel, by decide +kernel⟩
theorem md_X7_text : mx_D dm_X7_text 0 := ⟨mx_gw (i := 597) (by decide +kernel), mx_gw (i := 55) (by decide +kernel), by decide +kernel, by decide +kernel⟩
def dm_X7_textTold : Md := (yX7_textTold, cX7_textTold, 3, (some .int), 7)
theorem ow_X7_textTold : mx_own dm_X7_textTold := ⟨by decide +kernel, by decide +kernel⟩
theorem md_X7_textTold : mx_D dm_X7_textTold 2 := ⟨mx_gw (i := 792) (by decide +kernel), mx_gw (i := 55) (by decide +kernel), by decide +kernel, by decide +kernel⟩
def dm_X7_why : Md := (yX7_why, cX7_why, 3, (some .int), 7)
theorem ow_X7_why : mx_own dm_X7_why := ⟨by decide +kernel, by decide +kernel⟩
theorem md_X7_why : mx_D dm_X7_why 1 := ⟨mx_gw (i := 796) (by decide +kernel), mx_gw (i := 55) (by decide +kernel), by decide +kernel, by decide +kernel⟩
def dm_X7_sheet : Md := (yX7_sheet, cX7_sheet, 4, (some .int), 7)
theorem ow_X7_sheet : mx_own dm_X7_sheet := ⟨by decide +kernel, by decide +kernel⟩
theorem md_X7_sheet : mx_D dm_X7_sheet 3 := ⟨mx_gw (i := 800) (by decide +kernel), mx_gw (i := 55) (by decide +kernel), by decide +kernel, by decide +kernel⟩
def dm_X7_mark : Md := (yX7_mark, cX7_mark, 5, (some .int), 7)
theorem ow_X7_mark : mx_own dm_X7_mark := ⟨by decide +kernel, by decide +kernel⟩
theorem md_X7_mark : mx_D dm_X7_mark 3 := ⟨mx_gw (i := 809) (by decide +kernel), mx_gw (i := 55) (by decide +kernel), by decide +kernel, by decide +kernel⟩
def dm_X7_pour : Md := (yX7_pour, cX7_pour, 7, (some .int), 7)
theorem ow_X7_pour : mx_own dm_X7_pour := ⟨by decide +kernel, by decide +kernel⟩
theorem md_X7_pour : mx_D dm_X7_pour 1 := ⟨mx_gw (i := 815) (by decide +kernel), mx_gw (i := 55) (by decide +kernel), by decide +kernel, by decide +kernel⟩
def dm_X7_reads : Md := (yX7_reads, cX7_reads, 5, (some .int), 7)
theorem ow_X7_reads : mx_own dm_X7_reads := ⟨by decide +kernel, by decide +kernel⟩
theorem md_X7_reads : mx_D dm_X7_reads 2 := ⟨mx_gw (i := 820) (by decide +kernel), mx_gw (i := 55) (by decide +kernel), by decide +kernel, by decide +kernel⟩
def dm_X7_copy : Md := (yX7_copy, cX7_copy, 8, (some .int), 7)
theorem ow_X7_copy : mx_own dm_X7_copy := ⟨by decide +kernel, by decide +kernel⟩
theorem md_X7_copy : mx_D dm_X7_copy 5 := ⟨mx_gw (i := 824) (by decide +kernel), mx_gw (i := 55) (by decide +kernel), by decide +kernel, by decide +kernel⟩
def dm_X7_lay : Md := (yX7_lay, cX7_lay, 6, (some .int), 7)
theorem ow_X7_lay : mx_own dm_X7_lay := ⟨by decide +kernel, by decide +kernel⟩
theorem md_X7_lay : mx_D dm_X7_lay 3 := ⟨mx_gw (i := 833) (by decide +kernel), mx_gw (i := 55) (by decide +kernel), by decide +kernel, by decide +kernel⟩
def dm_X7_ask : Md := (yX7_ask, cX7_ask, 4, (some .int), 7)
theorem ow_X7_ask : mx_own dm_X7_ask := ⟨by decide +kernel, by decide +kernel⟩
theorem md_X7_ask : mx_D dm_X7_ask 2 := ⟨mx_gw (i := 847) (by decide +kernel), mx_gw (i := 55) (by decide +kernel), by decide +kernel, by decide +kernel⟩
def dm_X7_item : Md := (yX7_item, cX7_item, 4, (some .int), 7)
theorem ow_X7_item : mx_own dm_X7_item := ⟨by decide +kernel, by decide +kernel⟩
theorem md_X7_item : mx_D dm_X7_item 2 := ⟨mx_gw (i := 851) (by decide +kernel), mx_gw (i := 55) (by decide +kernel), by decide +kernel, by decide +kernel⟩
def dm_X7_rest : Md := (yX7_rest, cX7_rest, 4, (some .int), 7)
theorem ow_X7_rest : mx_own dm_X7_rest := ⟨by decide +kernel, by decide +kernel⟩
theorem md_X7_rest : mx_D dm_X7_rest 2 := ⟨mx_gw (i := 855) (by decide +kernel), mx_gw (i := 55) (by decide +kernel), by decide +kernel, by decide +kernel⟩
def dm_X7_tell : Md := (yX7_tell, cX7_tell, 2, (some .int), 7)
theorem ow_X7_tell : mx_own dm_X7_tell := ⟨by decide +kernel, by decide +kernel⟩
theorem md_X7_tell : mx_D dm_X7_tell 1 := ⟨mx_gw (i := 859) (by decide +kernel), mx_gw (i := 55) (by decide +kernel), by decide +kernel, by decide +kernel⟩
def dm_X7_check : Md := (yX7_check, cX7_check, 6, (some .int), 7)
theorem ow_X7_check : mx_own dm_X7_check := ⟨by decide +kernel, by decide +kernel⟩
theorem md_X7_check : mx_D dm_X7_check 1 := ⟨mx_gw (i := 863) (by decide +kernel), mx_gw (i := 55) (by decide +kernel), by decide +kernel, by decide +kernel⟩
def dm_X7_keep : Md := (yX7_keep, cX7_keep, 1, (some .int), 7)
theorem ow_X7_keep : mx_own dm_X7_keep := ⟨by decide +kernel, by decide +kernel⟩
theorem md_X7_keep : mx_D dm_X7_keep 0 := ⟨mx_gw (i := 880) (by decide +kernel), mx_gw (i := 55) (by decide +kernel), by decide +kernel, by decide +kernel⟩
def dm_X7_back : Md := (yX7_back, cX7_back, 1, (some .int), 7)
theorem ow_X7_back : mx_own dm_X7_back := ⟨by decide +kernel, by decide +kernel⟩
theorem md_X7_back : mx_D dm_X7_back 0 := ⟨mx_gw (i := 884) (by decide +kernel), mx_gw (i := 55) (by decide +kernel), by decide +kernel, by decide +kernel⟩
def dm_X7_count : Md := (yX7_count, cX7_count, 2, (some .int), 7)
theorem ow_X7_count : mx_own dm_X7_count := ⟨by decide +kernel, by decide +kernel⟩
theorem md_X7_count : mx_D dm_X7_count 1 := ⟨mx_gw (i := 888) (by decide +kernel), mx_gw (i := 55) (by decide +kernel), by decide +kernel, by decide +kernel⟩
def dm_X7_within : Md := (yX7_within, cX7_within, 3, (some .boolean), 7)
theorem ow_X7_within : mx_own dm_X7_within := ⟨by decide +kernel, by decide +kernel⟩
theorem md_X7_within : mx_D dm_X7_within 3 := ⟨mx_gw (i := 349) (by decide +kernel), mx_gw (i := 55) (by decide +kernel), by decide +kernel, by decide +kernel⟩
def dm_X7_held : Md := (yX7_held, cX7_held, 3, (some .int), 7)
theorem ow_X7_held : mx_own dm_X7_held := ⟨by decide +kernel, by decide +kernel⟩
theorem md_X7_held : mx_D dm_X7_held 3 := ⟨mx_gw (i := 401) (by decide +kernel), mx_gw (i := 55) (by decide +kernel), by decide +kernel, by decide +kernel⟩
def dm_X7_isKind : Md := (yX7_isKind, cX7_isKind, 1, (some .boolean), 7)
theorem ow_X7_isKind : mx_own dm_X7_isKind := ⟨by decide +kernel, by decide +kernel⟩
theorem md_X7_isKind : mx_D dm_X7_isKind 1 := ⟨mx_gw (i := 344) (by decide +kernel), mx_gw (i := 55) (by decide +kernel), by decide +kernel, by decide +kernel⟩
def dm_X7_isSheet : Md := (yX7_isSheet, cX7_isSheet, 2, (some .boolean), 7)
theorem ow_X7_isSheet : mx_own dm_X7_isSheet := ⟨by decide +kernel, by decide +kernel⟩
theorem md_X7_isSheet : mx_D dm_X7_isSheet 1 := ⟨mx_gw (i := 541) (by decide +kernel), mx_gw (i := 55) (by decide +kernel), by decide +kernel, by decide +kernel⟩
def dm_X7_isSlot : Md := (yX7_isSlot, cX7_isSlot, 2, (some .boolean), 7)
theorem ow_X7_isSlot : mx_own dm_X7_isSlot := ⟨by decide +kernel, by decide +kernel⟩
theorem md_X7_isSlot : mx_D dm_X7_isSlot 1 := ⟨mx_gw (i := 837) (by decide +kernel), mx_gw (i := 55) (by decide +kernel), by decide +kernel, by decide +kernel⟩
def dm_X7_only : Md := (yX7_only, cX7_only, 1, (some .int), 7)
theorem ow_X7_only : mx_own dm_X7_only := ⟨by decide +kernel, by decide +kernel⟩
theorem md_X7_only : mx_D dm_X7_only 1 := ⟨mx_gw (i := 500) (by decide +kernel), mx_gw (i := 55) (by decide +kernel), by decide +kernel, by decide +kernel⟩
def dm_X7_thinkFromNow : Md := (yX7_thinkFromNow, cX7_thinkFromNow, 1, none, 7)
theorem ow_X7_thinkFromNow : mx_own dm_X7_thinkFromNow := ⟨by decide +kernel, by decide +kernel⟩
theorem md_X7_thinkFromNow : mx_D dm_X7_thinkFromNow 0 := ⟨mx_gw (i := 489) (by decide +kernel), mx_gw (i := 55) (by decide +kernel), by decide +kernel, by decide +kernel⟩
def dm_X7_thinkOn : Md := (yX7_thinkOn, cX7_thinkOn, 4, none, 7)
theorem ow_X7_thinkOn : mx_own dm_X7_thinkOn := ⟨by decide +kernel, by decide +kernel⟩
theorem md_X7_thinkOn : mx_D dm_X7_thinkOn 2 := ⟨mx_gw (i := 504) (by decide +kernel), mx_gw (i := 55) (by decide +kernel), by decide +kernel, by decide +kernel⟩
def dm_X7_tradeOneDay : Md := (yX7_tradeOneDay, cX7_tradeOneDay, 3, none, 7)
theorem ow_X7_tradeOneDay : mx_own dm_X7_tradeOneDay := ⟨by decide +kernel, by decide +kernel⟩
theorem md_X7_tradeOneDay : mx_D dm_X7_tradeOneDay 0 := ⟨mx_gw (i := 521) (by decide +kernel), mx_gw (i := 55) (by decide +kernel), by decide +kernel, by decide +kernel⟩
def dm_X7_mostSeenAt : Md := (yX7_mostSeenAt, cX7_mostSeenAt, 3, (some .int), 7)
theorem ow_X7_mostSeenAt : mx_own dm_X7_mostSeenAt := ⟨by decide +kernel, by decide +kernel⟩
theorem md_X7_mostSeenAt : mx_D dm_X7_mostSeenAt 0 := ⟨mx_gw (i := 525) (by decide +kernel), mx_gw (i := 55) (by decide +kernel), by decide +kernel, by decide +kernel⟩
def dm_X7_differences : Md := (yX7_differences, cX7_differences, 7, (some .int), 7)
theorem ow_X7_differences : mx_own dm_X7_differences := ⟨by decide +kernel, by decide +kernel⟩
theorem md_X7_differences : mx_D dm_X7_differences 3 := ⟨mx_gw (i := 550) (by decide +kernel), mx_gw (i := 55) (by decide +kernel), by decide +kernel, by decide +kernel⟩
def dm_X7_thinkTillNextWeek : Md := (yX7_thinkTillNextWeek, cX7_thinkTillNextWeek, 4, none, 7)
theorem ow_X7_thinkTillNextWeek : mx_own dm_X7_thinkTillNextWeek := ⟨by decide +kernel, by decide +kernel⟩
theorem md_X7_thinkTillNextWeek : mx_D dm_X7_thinkTillNextWeek 1 := ⟨mx_gw (i := 571) (by decide +kernel), mx_gw (i := 55) (by decide +kernel), by decide +kernel, by decide +kernel⟩
def dm_X7_feedOne : Md := (yX7_feedOne, cX7_feedOne, 3, none, 7)
theorem ow_X7_feedOne : mx_own dm_X7_feedOne := ⟨by decide +kernel, by decide +kernel⟩
theorem md_X7_feedOne : mx_D dm_X7_feedOne 1 := ⟨mx_gw (i := 589) (by decide +kernel), mx_gw (i := 55) (by decide +kernel), by decide +kernel, by decide +kernel⟩
def dm_X7_stands : Md := (yX7_stands, cX7_stands, 4, (some .boolean), 7)
theorem ow_X7_stands : mx_own dm_X7_stands := ⟨by decide +kernel, by decide +kernel⟩
theorem md_X7_stands : mx_D dm_X7_stands 3 := ⟨mx_gw (i := 872) (by decide +kernel), mx_gw (i := 55) (by decide +kernel), by decide +kernel, by decide +kernel⟩
def dm_X8_init : Md := (yX8_init, cX8_init, 1, none, 8)
theorem ow_X8_init : mx_own dm_X8_init := ⟨by decide +kernel, by decide +kernel⟩
theorem md_X8_init : mx_D dm_X8_init 0 := ⟨mx_gw (i := 893) (by decide +kernel), mx_gw (i := 63) (by decide +kernel), by decide +kernel, by decide +kernel⟩
def dm_X8_in : Md := (yX8_in, cX8_in, 3, (some .boolean), 8)
theorem ow_X8_in : mx_own dm_X8_in := ⟨by decide +kernel, by decide +kernel⟩
theorem md_X8_in : mx_D dm_X8_in 3 := ⟨mx_gw (i := 1009) (by decide +kernel), mx_gw (i := 63) (by decide +kernel), by decide +kernel, by decide +kernel⟩
def dm_X8_within : Md := (yX8_within, cX8_within, 3, (some .int), 8)
theorem ow_X8_within : mx_own dm_X8_within := ⟨by decide +kernel, by decide +kernel⟩
theorem md_X8_within : mx_D dm_X8_within 3 := ⟨mx_gw (i := 1061) (by decide +kernel), mx_gw (i := 63) (by decide +kernel), by decide +kernel, by decide +kernel⟩
def dm_X8_copyAll : Md := (yX8_copyAll, cX8_copyAll, 3, none, 8)
theorem ow_X8_copyAll : mx_own dm_X8_copyAll := ⟨by decide +kernel, by decide +kernel⟩
theorem md_X8_copyAll : mx_D dm_X8_copyAll 2 := ⟨mx_gw (i := 1301) (by decide +kernel), mx_gw (i := 63) (by decide +kernel), by decide +kernel, by decide +kernel⟩
def dm_X8_isDistrict : Md := (yX8_isDistrict, cX8_isDistrict, 2, (some .boolean), 8)
theorem ow_X8_isDistrict : mx_own dm_X8_isDistrict := ⟨by decide +kernel, by decide +kernel⟩
theorem md_X8_isDistrict : mx_D dm_X8_isDistrict 1 := ⟨mx_gw (i := 1027) (by decide +kernel), mx_gw (i := 63) (by decide +kernel), by decide +kernel, by decide +kernel⟩
def dm_X8_of : Md := (yX8_of, cX8_of, 3, (some .int), 8)
theorem ow_X8_of : mx_own dm_X8_of := ⟨by decide +kernel, by decide +kernel⟩
theorem md_X8_of : mx_D dm_X8_of 2 := ⟨mx_gw (i := 1031) (by decide +kernel), mx_gw (i := 63) (by decide +kernel), by decide +kernel, by decide +kernel⟩
def dm_X8_put : Md := (yX8_put, cX8_put, 4, none, 8)
theorem ow_X8_put : mx_own dm_X8_put := ⟨by decide +kernel, by decide +kernel⟩
theorem md_X8_put : mx_D dm_X8_put 3 := ⟨mx_gw (i := 1019) (by decide +kernel), mx_gw (i := 63) (by decide +kernel), by decide +kernel, by decide +kernel⟩
def dm_X8_becomes : Md := (yX8_becomes, cX8_becomes, 4, (some .int), 8)
theorem ow_X8_becomes : mx_own dm_X8_becomes := ⟨by decide +kernel, by decide +kernel⟩
theorem md_X8_becomes : mx_D dm_X8_becomes 2 := ⟨mx_gw (i := 1077) (by decide +kernel), mx_gw (i := 63) (by decide +kernel), by decide +kernel, by decide +kernel⟩
def dm_X8_comes : Md := (yX8_comes, cX8_comes, 5, (some .int), 8)
theorem ow_X8_comes : mx_own dm_X8_comes := ⟨by decide +kernel, by decide +kernel⟩
theorem md_X8_comes : mx_D dm_X8_comes 2 := ⟨mx_gw (i := 1015) (by decide +kernel), mx_gw (i := 63) (by decide +kernel), by decide +kernel, by decide +kernel⟩
def dm_X8_district : Md := (yX8_district, cX8_district, 3, (some .int), 8)
theorem ow_X8_district : mx_own dm_X8_district := ⟨by decide +kernel, by decide +kernel⟩
theorem md_X8_district : mx_D dm_X8_district 2 := ⟨mx_gw (i := 1006) (by decide +kernel), mx_gw (i := 63) (by decide +kernel), by decide +kernel, by decide +kernel⟩
def dm_X8_worthOf : Md := (yX8_worthOf, cX8_worthOf, 3, (some .int), 8)
theorem ow_X8_worthOf : mx_own dm_X8_worthOf := ⟨by decide +kernel, by decide +kernel⟩
theorem md_X8_worthOf : mx_D dm_X8_worthOf 1 := ⟨mx_gw (i := 1035) (by decide +kernel), mx_gw (i := 63) (by decide +kernel), by decide +kernel, by decide +kernel⟩
def dm_X8_isFair : Md := (yX8_isFair, cX8_isFair, 2, (some .boolean), 8)
theorem ow_X8_isFair : mx_own dm_X8_isFair := ⟨by decide +kernel, by decide +kernel⟩
theorem md_X8_isFair : mx_D dm_X8_isFair 1 := ⟨mx_gw (i := 1039) (by decide +kernel), mx_gw (i := 63) (by decide +kernel), by decide +kernel, by decide +kernel⟩
def dm_X8_told : Md := (yX8_told, cX8_told, 3, (some .int), 8)
theorem ow_X8_told : mx_own dm_X8_told := ⟨by decide +kernel, by decide +kernel⟩
theorem md_X8_told : mx_D dm_X8_told 2 := ⟨mx_gw (i := 1023) (by decide +kernel), mx_gw (i := 63) (by decide +kernel), by decide +kernel, by decide +kernel⟩
def dm_X8_birthsOf : Md := (yX8_birthsOf, cX8_birthsOf, 5, (some .int), 8)
theorem ow_X8_birthsOf : mx_own dm_X8_birthsOf := ⟨by decide +kernel, by decide +kernel⟩
theorem md_X8_birthsOf : mx_D dm_X8_birthsOf 2 := ⟨mx_gw (i := 1047) (by decide +kernel), mx_gw (i := 63) (by decide +kernel), by decide +kernel, by decide +kernel⟩
def dm_X8_births : Md := (yX8_births, cX8_births, 3, (some .int), 8)
theorem ow_X8_births : mx_own dm_X8_births := ⟨by decide +kernel, by decide +kernel⟩
theorem md_X8_births : mx_D dm_X8_births 2 := ⟨mx_gw (i := 1043) (by decide +kernel), mx_gw (i := 63) (by decide +kernel), by decide +kernel, by decide +kernel⟩
def dm_X8_isUnder : Md := (yX8_isUnder, cX8_isUnder, 2, (some .boolean), 8)
theorem ow_X8_isUnder : mx_own dm_X8_isUnder := ⟨by decide +kernel, by decide +kernel⟩
theorem md_X8_isUnder : mx_D dm_X8_isUnder 2 := ⟨mx_gw (i := 1068) (by decide +kernel), mx_gw (i := 63) (by decide +kernel), by decide +kernel, by decide +kernel⟩
def dm_X8_as : Md := (yX8_as, cX8_as, 3, (some .int), 8)
theorem ow_X8_as : mx_own dm_X8_as := ⟨by decide +kernel, by decide +kernel⟩
theorem md_X8_as : mx_D dm_X8_as 2 := ⟨mx_gw (i := 1065) (by decide +kernel), mx_gw (i := 63) (by decide +kernel), by decide +kernel, by decide +kernel⟩
def dm_X8_turns : Md := (yX8_turns, cX8_turns, 3, (some .int), 8)
theorem ow_X8_turns : mx_own dm_X8_turns := ⟨by decide +kernel, by decide +kernel⟩
theorem md_X8_turns : mx_D dm_X8_turns 2 := ⟨mx_gw (i := 1073) (by decide +kernel), mx_gw (i := 63) (by decide +kernel), by decide +kernel, by decide +kernel⟩
def dm_X8_set : Md := (yX8_set, cX8_set, 4, (some .int), 8)
theorem ow_X8_set : mx_own dm_X8_set := ⟨by decide +kernel, by decide +kernel⟩
theorem md_X8_set : mx_D dm_X8_set 3 := ⟨mx_gw (i := 1081) (by decide +kernel), mx_gw (i := 63) (by decide +kernel), by decide +kernel, by decide +kernel⟩
def dm_X8_hides : Md := (yX8_hides, cX8_hides, 2, none, 8)
theorem ow_X8_hides : mx_own dm_X8_hides := ⟨by decide +kernel, by decide +kernel⟩
theorem md_X8_hides : mx_D dm_X8_hides 1 := ⟨mx_gw (i := 1092) (by decide +kernel), mx_gw (i := 63) (by decide +kernel), by decide +kernel, by decide +kernel⟩
def dm_X8_hide : Md := (yX8_hide, cX8_hide, 2, (some .int), 8)
theorem ow_X8_hide : mx_own dm_X8_hide := ⟨by decide +kernel, by decide +kernel⟩
theorem md_X8_hide : mx_D dm_X8_hide 1 := ⟨mx_gw (i := 1087) (by decide +kernel), mx_gw (i := 63) (by decide +kernel), by decide +kernel, by decide +kernel⟩
def dm_X8_rule : Md := (yX8_rule, cX8_rule, 3, (some .int), 8)
theorem ow_X8_rule : mx_own dm_X8_rule := ⟨by decide +kernel, by decide +kernel⟩
theorem md_X8_rule : mx_D dm_X8_rule 2 := ⟨mx_gw (i := 1096) (by decide +kernel), mx_gw (i := 63) (by decide +kernel), by decide +kernel, by decide +kernel⟩
def dm_X8_draw : Md := (yX8_draw, cX8_draw, 1, (some .int), 8)
theorem ow_X8_draw : mx_own dm_X8_draw := ⟨by decide +kernel, by decide +kernel⟩
theorem md_X8_draw : mx_D dm_X8_draw 0 := ⟨mx_gw (i := 1104) (by decide +kernel), mx_gw (i := 63) (by decide +kernel), by decide +kernel, by decide +kernel⟩
def dm_X8_deal : Md := (yX8_deal, cX8_deal, 5, (some .int), 8)
theorem ow_X8_deal : mx_own dm_X8_deal := ⟨by decide +kernel, by decide +kernel⟩
theorem md_X8_deal : mx_D dm_X8_deal 1 := ⟨mx_gw (i := 1100) (by decide +kernel), mx_gw (i := 63) (by decide +kernel), by decide +kernel, by decide +kernel⟩
def dm_X8_seed : Md := (yX8_seed, cX8_seed, 2, (some .int), 8)
theorem ow_X8_seed : mx_own dm_X8_seed := ⟨by decide +kernel, by decide +kernel⟩
theorem md_X8_seed : mx_D dm_X8_seed 1 := ⟨mx_gw (i := 1109) (by decide +kernel), mx_gw (i := 63) (by decide +kernel), by decide +kernel, by decide +kernel⟩
def dm_X8_wageOf : Md := (yX8_wageOf, cX8_wageOf, 3, (some .int), 8)
theorem ow_X8_wageOf : mx_own dm_X8_wageOf := ⟨by decide +kernel, by decide +kernel⟩
theorem md_X8_wageOf : mx_D dm_X8_wageOf 1 := ⟨mx_gw (i := 1129) (by decide +kernel), mx_gw (i := 63) (by decide +kernel), by decide +kernel, by decide +kernel⟩
def dm_X8_weekEnds : Md := (yX8_weekEnds, cX8_weekEnds, 2, none, 8)
theorem ow_X8_weekEnds : mx_own dm_X8_weekEnds := ⟨by decide +kernel, by decide +kernel⟩
theorem md_X8_weekEnds : mx_D dm_X8_weekEnds 1 := ⟨mx_gw (i := 1125) (by decide +kernel), mx_gw (i := 63) (by decide +kernel), by decide +kernel, by decide +kernel⟩
def dm_X8_day : Md := (yX8_day, cX8_day, 4, (some .int), 8)
theorem ow_X8_day : mx_own dm_X8_day := ⟨by decide +kernel, by decide +kernel⟩
theorem md_X8_day : mx_D dm_X8_day 0 := ⟨mx_gw (i := 1121) (by decide +kernel), mx_gw (i := 63) (by decide +kernel), by decide +kernel, by decide +kernel⟩
def dm_X8_goesOn : Md := (yX8_goesOn, cX8_goesOn, 4, (some .int), 8)
theorem ow_X8_goesOn : mx_own dm_X8_goesOn := ⟨by decide +kernel, by decide +kernel⟩
theorem md_X8_goesOn : mx_D dm_X8_goesOn 1 := ⟨mx_gw (i := 1117) (by decide +kernel), mx_gw (i := 63) (by decide +kernel), by decide +kernel, by decide +kernel⟩
def dm_X8_days : Md := (yX8_days, cX8_days, 2, (some .int), 8)
theorem ow_X8_days : mx_own dm_X8_days := ⟨by decide +kernel, by decide +kernel⟩
theorem md_X8_days : mx_D dm_X8_days 1 := ⟨mx_gw (i := 1113) (by decide +kernel), mx_gw (i := 63) (by decide +kernel), by decide +kernel, by decide +kernel⟩
def dm_X8_thinks : Md := (yX8_thinks, cX8_thinks, 2, none, 8)
theorem ow_X8_thinks : mx_own dm_X8_thinks := ⟨by decide +kernel, by decide +kernel⟩
theorem md_X8_thinks : mx_D dm_X8_thinks 0 := ⟨mx_gw (i := 1137) (by decide +kernel), mx_gw (i := 63) (by decide +kernel), by decide +kernel, by decide +kernel⟩
def dm_X8_putsBack : Md := (yX8_putsBack, cX8_putsBack, 2, none, 8)
theorem ow_X8_putsBack : mx_own dm_X8_putsBack := ⟨by decide +kernel, by decide +kernel⟩
theorem md_X8_putsBack : mx_D dm_X8_putsBack 0 := ⟨mx_gw (i := 1141) (by decide +kernel), mx_gw (i := 63) (by decide +kernel), by decide +kernel, by decide +kernel⟩
def dm_X8_behind : Md := (yX8_behind, cX8_behind, 6, (some .int), 8)
theorem ow_X8_behind : mx_own dm_X8_behind := ⟨by decide +kernel, by decide +kernel⟩
theorem md_X8_behind : mx_D dm_X8_behind 3 := ⟨mx_gw (i := 1133) (by decide +kernel), mx_gw (i := 63) (by decide +kernel), by decide +kernel, by decide +kernel⟩
def dm_X8_meets : Md := (yX8_meets, cX8_meets, 5, (some .int), 8)
theorem ow_X8_meets : mx_own dm_X8_meets := ⟨by decide +kernel, by decide +kernel⟩
theorem md_X8_meets : mx_D dm_X8_meets 2 := ⟨mx_gw (i := 1145) (by decide +kernel), mx_gw (i := 63) (by decide +kernel), by decide +kernel, by decide +kernel⟩
def dm_X8_sundays : Md := (yX8_sundays, cX8_sundays, 6, (some .int), 8)
theorem ow_X8_sundays : mx_own dm_X8_sundays := ⟨by decide +kernel, by decide +kernel⟩
theorem md_X8_sundays : mx_D dm_X8_sundays 2 := ⟨mx_gw (i := 1150) (by decide +kernel), mx_gw (i := 63) (by decide +kernel), by decide +kernel, by decide +kernel⟩
def dm_X8_trades : Md := (yX8_trades, cX8_trades, 3, none, 8)
theorem ow_X8_trades : mx_own dm_X8_trades := ⟨by decide +kernel, by decide +kernel⟩
theorem md_X8_trades : mx_D dm_X8_trades 0 := ⟨mx_gw (i := 1158) (by decide +kernel), mx_gw (i := 63) (by decide +kernel), by decide +kernel, by decide +kernel⟩
def dm_X8_trader : Md := (yX8_trader, cX8_trader, 5, (some .int), 8)
theorem ow_X8_trader : mx_own dm_X8_trader := ⟨by decide +kernel, by decide +kernel⟩
theorem md_X8_trader : mx_D dm_X8_trader 2 := ⟨mx_gw (i := 1154) (by decide +kernel), mx_gw (i := 63) (by decide +kernel), by decide +kernel, by decide +kernel⟩
def dm_X8_richest : Md := (yX8_richest, cX8_richest, 5, (some .int), 8)
theorem ow_X8_richest : mx_own dm_X8_richest := ⟨by decide +kernel, by decide +kernel⟩
theorem md_X8_richest : mx_D dm_X8_richest 1 := ⟨mx_gw (i := 1162) (by decide +kernel), mx_gw (i := 63) (by decide +kernel), by decide +kernel, by decide +kernel⟩
def dm_X8_brings : Md := (yX8_brings, cX8_brings, 6, (some .int), 8)
theorem ow_X8_brings : mx_own dm_X8_brings := ⟨by decide +kernel, by decide +kernel⟩
theorem md_X8_brings : mx_D dm_X8_brings 2 := ⟨mx_gw (i := 1166) (by decide +kernel), mx_gw (i := 63) (by decide +kernel), by decide +kernel, by decide +kernel⟩
def dm_X8_offBy : Md := (yX8_offBy, cX8_offBy, 11, (some .long), 8)
theorem ow_X8_offBy : mx_own dm_X8_offBy := ⟨by decide +kernel, by decide +kernel⟩
theorem md_X8_offBy : mx_D dm_X8_offBy 3 := ⟨mx_gw (i := 1178) (by decide +kernel), mx_gw (i := 63) (by decide +kernel), by decide +kernel, by decide +kernel⟩
def dm_X8_rated : Md := (yX8_rated, cX8_rated, 10, (some .int), 8)
theorem ow_X8_rated : mx_own dm_X8_rated := ⟨by decide +kernel, by decide +kernel⟩
theorem md_X8_rated : mx_D dm_X8_rated 3 := ⟨mx_gw (i := 1170) (by decide +kernel), mx_gw (i := 63) (by decide +kernel), by decide +kernel, by decide +kernel⟩
def dm_X8_sumOf : Md := (yX8_sumOf, cX8_sumOf, 4, (some .int), 8)
theorem ow_X8_sumOf : mx_own dm_X8_sumOf := ⟨by decide +kernel, by decide +kernel⟩
theorem md_X8_sumOf : mx_D dm_X8_sumOf 1 := ⟨mx_gw (i := 1186) (by decide +kernel), mx_gw (i := 63) (by decide +kernel), by decide +kernel, by decide +kernel⟩
def dm_X8_fine : Md := (yX8_fine, cX8_fine, 2, (some .int), 8)
theorem ow_X8_fine : mx_own dm_X8_fine := ⟨by decide +kernel, by decide +kernel⟩
theorem md_X8_fine : mx_D dm_X8_fine 0 := ⟨mx_gw (i := 1182) (by decide +kernel), mx_gw (i := 63) (by decide +kernel), by decide +kernel, by decide +kernel⟩
def dm_X8_feed : Md := (yX8_feed, cX8_feed, 6, (some .int), 8)
theorem ow_X8_feed : mx_own dm_X8_feed := ⟨by decide +kernel, by decide +kernel⟩
theorem md_X8_feed : mx_D dm_X8_feed 3 := ⟨mx_gw (i := 1190) (by decide +kernel), mx_gw (i := 63) (by decide +kernel), by decide +kernel, by decide +kernel⟩
def dm_X8_trim : Md := (yX8_trim, cX8_trim, 2, (some .int), 8)
theorem ow_X8_trim : mx_own dm_X8_trim := ⟨by decide +kernel, by decide +kernel⟩
theorem md_X8_trim : mx_D dm_X8_trim 1 := ⟨mx_gw (i := 1194) (by decide +kernel), mx_gw (i := 63) (by decide +kernel), by decide +kernel, by decide +kernel⟩
def dm_X8_isLetter : Md := (yX8_isLetter, cX8_isLetter, 2, (some .boolean), 8)
theorem ow_X8_isLetter : mx_own dm_X8_isLetter := ⟨by decide +kernel, by decide +kernel⟩
theorem md_X8_isLetter : mx_D dm_X8_isLetter 1 := ⟨mx_gw (i := 1206) (by decide +kernel), mx_gw (i := 63) (by decide +kernel), by decide +kernel, by decide +kernel⟩
def dm_X8_isFigure : Md := (yX8_isFigure, cX8_isFigure, 2, (some .boolean), 8)
theorem ow_X8_isFigure : mx_own dm_X8_isFigure := ⟨by decide +kernel, by decide +kernel⟩
theorem md_X8_isFigure : mx_D dm_X8_isFigure 1 := ⟨mx_gw (i := 1210) (by decide +kernel), mx_gw (i := 63) (by decide +kernel), by decide +kernel, by decide +kernel⟩
def dm_X8_go : Md := (yX8_go, cX8_go, 2, none, 8)
theorem ow_X8_go : mx_own dm_X8_go := ⟨by decide +kernel, by decide +kernel⟩
theorem md_X8_go : mx_D dm_X8_go 0 := ⟨mx_gw (i := 1202) (by decide +kernel), mx_gw (i := 63) (by decide +kernel), by decide +kernel, by decide +kernel⟩
def dm_X8_takesKey : Md := (yX8_takesKey, cX8_takesKey, 5, (some .boolean), 8)
theorem ow_X8_takesKey : mx_own dm_X8_takesKey := ⟨by decide +kernel, by decide +kernel⟩
theorem md_X8_takesKey : mx_D dm_X8_takesKey 0 := ⟨mx_gw (i := 1214) (by decide +kernel), mx_gw (i := 63) (by decide +kernel), by decide +kernel, by decide +kernel⟩
def dm_X8_nameOf : Md := (yX8_nameOf, cX8_nameOf, 2, (some .int), 8)
theorem ow_X8_nameOf : mx_own dm_X8_nameOf := ⟨by decide +kernel, by decide +kernel⟩
theorem md_X8_nameOf : mx_D dm_X8_nameOf 1 := ⟨mx_gw (i := 1226) (by decide +kernel), mx_gw (i := 63) (by decide +kernel), by decide +kernel, by decide +kernel⟩
def dm_X8_rank : Md := (yX8_rank, cX8_rank, 1, (some .int), 8)
theorem ow_X8_rank : mx_own dm_X8_rank := ⟨by decide +kernel, by decide +kernel⟩
theorem md_X8_rank : mx_D dm_X8_rank 1 := ⟨mx_gw (i := 1233) (by decide +kernel), mx_gw (i := 63) (by decide +kernel), by decide +kernel, by decide +kernel⟩
def dm_X8_settle : Md := (yX8_settle, cX8_settle, 2, none, 8)
theorem ow_X8_settle : mx_own dm_X8_settle := ⟨by decide +kernel, by decide +kernel⟩
theorem md_X8_settle : mx_D dm_X8_settle 1 := ⟨mx_gw (i := 1230) (by decide +kernel), mx_gw (i := 63) (by decide +kernel), by decide +kernel, by decide +kernel⟩
def dm_X8_signHere : Md := (yX8_signHere, cX8_signHere, 1, (some .int), 8)
theorem ow_X8_signHere : mx_own dm_X8_signHere := ⟨by decide +kernel, by decide +kernel⟩
theorem md_X8_signHere : mx_D dm_X8_signHere 0 := ⟨mx_gw (i := 1241) (by decide +kernel), mx_gw (i := 63) (by decide +kernel), by decide +kernel, by decide +kernel⟩
def dm_X8_takesPart : Md := (yX8_takesPart, cX8_takesPart, 2, (some .boolean), 8)
theorem ow_X8_takesPart : mx_own dm_X8_takesPart := ⟨by decide +kernel, by decide +kernel⟩
theorem md_X8_takesPart : mx_D dm_X8_takesPart 0 := ⟨mx_gw (i := 1222) (by decide +kernel), mx_gw (i := 63) (by decide +kernel), by decide +kernel, by decide +kernel⟩
def dm_X8_takesE : Md := (yX8_takesE, cX8_takesE, 5, (some .boolean), 8)
theorem ow_X8_takesE : mx_own dm_X8_takesE := ⟨by decide +kernel, by decide +kernel⟩
theorem md_X8_takesE : mx_D dm_X8_takesE 0 := ⟨mx_gw (i := 1218) (by decide +kernel), mx_gw (i := 63) (by decide +kernel), by decide +kernel, by decide +kernel⟩
def dm_X8_notsOpen : Md := (yX8_notsOpen, cX8_notsOpen, 3, (some .int), 8)
theorem ow_X8_notsOpen : mx_own dm_X8_notsOpen := ⟨by decide +kernel, by decide +kernel⟩
theorem md_X8_notsOpen : mx_D dm_X8_notsOpen 0 := ⟨mx_gw (i := 1237) (by decide +kernel), mx_gw (i := 63) (by decide +kernel), by decide +kernel, by decide +kernel⟩
def dm_X8_text : Md := (yX8_text, cX8_text, 4, (some .int), 8)
theorem ow_X8_text : mx_own dm_X8_text := ⟨by decide +kernel, by decide +kernel⟩
theorem md_X8_text : mx_D dm_X8_text 0 := ⟨mx_gw (i := 1198) (by decide +kernel), mx_gw (i := 63) (by decide +kernel), by decide +kernel, by decide +kernel⟩
def dm_X8_textTold : Md := (yX8_textTold, cX8_textTold, 3, (some .int), 8)
theorem ow_X8_textTold : mx_own dm_X8_textTold := ⟨by decide +kernel, by decide +kernel⟩
theorem md_X8_textTold : mx_D dm_X8_textTold 2 := ⟨mx_gw (i := 1245) (by decide +kernel), mx_gw (i := 63) (by decide +kernel), by decide +kernel, by decide +kernel⟩
def dm_X8_counts : Md := (yX8_counts, cX8_counts, 3, (some .int), 8)
theorem ow_X8_counts : mx_own dm_X8_counts := ⟨by decide +kernel, by decide +kernel⟩
theorem md_X8_counts : mx_D dm_X8_counts 1 := ⟨mx_gw (i := 1051) (by decide +kernel), mx_gw (i := 63) (by decide +kernel), by decide +kernel, by decide +kernel⟩
def dm_X8_why : Md := (yX8_why, cX8_why, 3, (some .int), 8)
theorem ow_X8_why : mx_own dm_X8_why := ⟨by decide +kernel, by decide +kernel⟩
theorem md_X8_why : mx_D dm_X8_why 1 := ⟨mx_gw (i := 1249) (by decide +kernel), mx_gw (i := 63) (by decide +kernel), by decide +kernel, by decide +kernel⟩
def dm_X8_two : Md := (yX8_two, cX8_two, 3, (some .int), 8)
theorem ow_X8_two : mx_own dm_X8_two := ⟨by decide +kernel, by decide +kernel⟩
theorem md_X8_two : mx_D dm_X8_two 3 := ⟨mx_gw (i := 1058) (by decide +kernel), mx_gw (i := 63) (by decide +kernel), by decide +kernel, by decide +kernel⟩
def dm_X8_worksOut : Md := (yX8_worksOut, cX8_worksOut, 6, (some .int), 8)
theorem ow_X8_worksOut : mx_own dm_X8_worksOut := ⟨by decide +kernel, by decide +kernel⟩
theorem md_X8_worksOut : mx_D dm_X8_worksOut 1 := ⟨mx_gw (i := 1055) (by decide +kernel), mx_gw (i := 63) (by decide +kernel), by decide +kernel, by decide +kernel⟩
def dm_X8_isSheet : Md := (yX8_isSheet, cX8_isSheet, 1, (some .boolean), 8)
theorem ow_X8_isSheet : mx_own dm_X8_isSheet := ⟨by decide +kernel, by decide +kernel⟩
theorem md_X8_isSheet : mx_D dm_X8_isSheet 1 := ⟨mx_gw (i := 1173) (by decide +kernel), mx_gw (i := 63) (by decide +kernel), by decide +kernel, by decide +kernel⟩
def dm_X8_isSlot : Md := (yX8_isSlot, cX8_isSlot, 1, (some .boolean), 8)
theorem ow_X8_isSlot : mx_own dm_X8_isSlot := ⟨by decide +kernel, by decide +kernel⟩
theorem md_X8_isSlot : mx_D dm_X8_isSlot 1 := ⟨mx_gw (i := 1278) (by decide +kernel), mx_gw (i := 63) (by decide +kernel), by decide +kernel, by decide +kernel⟩
def dm_X8_sheet : Md := (yX8_sheet, cX8_sheet, 5, (some .int), 8)
theorem ow_X8_sheet : mx_own dm_X8_sheet := ⟨by decide +kernel, by decide +kernel⟩
theorem md_X8_sheet : mx_D dm_X8_sheet 3 := ⟨mx_gw (i := 1253) (by decide +kernel), mx_gw (i := 63) (by decide +kernel), by decide +kernel, by decide +kernel⟩
def dm_X8_mark : Md := (yX8_mark, cX8_mark, 4, (some .int), 8)
theorem ow_X8_mark : mx_own dm_X8_mark := ⟨by decide +kernel, by decide +kernel⟩
theorem md_X8_mark : mx_D dm_X8_mark 3 := ⟨mx_gw (i := 1258) (by decide +kernel), mx_gw (i := 63) (by decide +kernel), by decide +kernel, by decide +kernel⟩
def dm_X8_pour : Md := (yX8_pour, cX8_pour, 6, (some .int), 8)
theorem ow_X8_pour : mx_own dm_X8_pour := ⟨by decide +kernel, by decide +kernel⟩
theorem md_X8_pour : mx_D dm_X8_pour 1 := ⟨mx_gw (i := 1263) (by decide +kernel), mx_gw (i := 63) (by decide +kernel), by decide +kernel, by decide +kernel⟩
def dm_X8_reads : Md := (yX8_reads, cX8_reads, 7, (some .int), 8)
theorem ow_X8_reads : mx_own dm_X8_reads := ⟨by decide +kernel, by decide +kernel⟩
theorem md_X8_reads : mx_D dm_X8_reads 2 := ⟨mx_gw (i := 1267) (by decide +kernel), mx_gw (i := 63) (by decide +kernel), by decide +kernel, by decide +kernel⟩
def dm_X8_copy : Md := (yX8_copy, cX8_copy, 7, (some .int), 8)
theorem ow_X8_copy : mx_own dm_X8_copy := ⟨by decide +kernel, by decide +kernel⟩
theorem md_X8_copy : mx_D dm_X8_copy 5 := ⟨mx_gw (i := 1271) (by decide +kernel), mx_gw (i := 63) (by decide +kernel), by decide +kernel, by decide +kernel⟩
def dm_X8_lay : Md := (yX8_lay, cX8_lay, 6, (some .int), 8)
theorem ow_X8_lay : mx_own dm_X8_lay := ⟨by decide +kernel, by decide +kernel⟩
theorem md_X8_lay : mx_D dm_X8_lay 3 := ⟨mx_gw (i := 1275) (by decide +kernel), mx_gw (i := 63) (by decide +kernel), by decide +kernel, by decide +kernel⟩
def dm_X8_ask : Md := (yX8_ask, cX8_ask, 3, (some .int), 8)
theorem ow_X8_ask : mx_own dm_X8_ask := ⟨by decide +kernel, by decide +kernel⟩
theorem md_X8_ask : mx_D dm_X8_ask 2 := ⟨mx_gw (i := 1282) (by decide +kernel), mx_gw (i := 63) (by decide +kernel), by decide +kernel, by decide +kernel⟩
def dm_X8_item : Md := (yX8_item, cX8_item, 4, (some .int), 8)
theorem ow_X8_item : mx_own dm_X8_item := ⟨by decide +kernel, by decide +kernel⟩
theorem md_X8_item : mx_D dm_X8_item 2 := ⟨mx_gw (i := 1286) (by decide +kernel), mx_gw (i := 63) (by decide +kernel), by decide +kernel, by decide +kernel⟩
def dm_X8_rest : Md := (yX8_rest, cX8_rest, 3, (some .int), 8)
theorem ow_X8_rest : mx_own dm_X8_rest := ⟨by decide +kernel, by decide +kernel⟩
theorem md_X8_rest : mx_D dm_X8_rest 2 := ⟨mx_gw (i := 1290) (by decide +kernel), mx_gw (i := 63) (by decide +kernel), by decide +kernel, by decide +kernel⟩
def dm_X8_tell : Md := (yX8_tell, cX8_tell, 2, (some .int), 8)
theorem ow_X8_tell : mx_own dm_X8_tell := ⟨by decide +kernel, by decide +kernel⟩
theorem md_X8_tell : mx_D dm_X8_tell 1 := ⟨mx_gw (i := 1294) (by decide +kernel), mx_gw (i := 63) (by decide +kernel), by decide +kernel, by decide +kernel⟩
def dm_X8_fairs : Md := (yX8_fairs, cX8_fairs, 3, (some .int), 8)
theorem ow_X8_fairs : mx_own dm_X8_fairs := ⟨by decide +kernel, by decide +kernel⟩
theorem md_X8_fairs : mx_D dm_X8_fairs 0 := ⟨mx_gw (i := 1305) (by decide +kernel), mx_gw (i := 63) (by decide +kernel), by decide +kernel, by decide +kernel⟩
def dm_X8_check : Md := (yX8_check, cX8_check, 7, (some .int), 8)
theorem ow_X8_check : mx_own dm_X8_check := ⟨by decide +kernel, by decide +kernel⟩
theorem md_X8_check : mx_D dm_X8_check 1 := ⟨mx_gw (i := 1298) (by decide +kernel), mx_gw (i := 63) (by decide +kernel), by decide +kernel, by decide +kernel⟩
def dm_X8_keep : Md := (yX8_keep, cX8_keep, 1, (some .int), 8)
theorem ow_X8_keep : mx_own dm_X8_keep := ⟨by decide +kernel, by decide +kernel⟩
theorem md_X8_keep : mx_D dm_X8_keep 0 := ⟨mx_gw (i := 1309) (by decide +kernel), mx_gw (i := 63) (by decide +kernel), by decide +kernel, by decide +kernel⟩
def dm_X8_back : Md := (yX8_back, cX8_back, 1, (some .int), 8)
theorem ow_X8_back : mx_own dm_X8_back := ⟨by decide +kernel, by decide +kernel⟩
theorem md_X8_back : mx_D dm_X8_back 0 := ⟨mx_gw (i := 1313) (by decide +kernel), mx_gw (i := 63) (by decide +kernel), by decide +kernel, by decide +kernel⟩
def dm_X8_count : Md := (yX8_count, cX8_count, 2, (some .int), 8)
theorem ow_X8_count : mx_own dm_X8_count := ⟨by decide +kernel, by decide +kernel⟩
theorem md_X8_count : mx_D dm_X8_count 1 := ⟨mx_gw (i := 1317) (by decide +kernel), mx_gw (i := 63) (by decide +kernel), by decide +kernel, by decide +kernel⟩
def dm_J0_length_8abf5 : Md := (yJ0_length_8abf5, cJ0_length_8abf5, 1, (some .int), 10)
theorem ow_J0_length_8abf5 : mx_own dm_J0_length_8abf5 := ⟨by decide +kernel, by decide +kernel⟩
theorem md_J0_length_8abf5 : mx_D dm_J0_length_8abf5 0 := ⟨mx_gw (i := 626) (by decide +kernel), mx_gw (i := 65) (by decide +kernel), by decide +kernel, by decide +kernel⟩
def dm_J0_charAt_5068e : Md := (yJ0_charAt_5068e, cJ0_charAt_5068e, 2, (some .char), 10)
theorem ow_J0_charAt_5068e : mx_own dm_J0_charAt_5068e := ⟨by decide +kernel, by decide +kernel⟩
theorem md_J0_charAt_5068e : mx_D dm_J0_charAt_5068e 1 := ⟨mx_gw (i := 636) (by decide +kernel), mx_gw (i := 65) (by decide +kernel), by decide +kernel, by decide +kernel⟩
def dm_J0_indexOf_0f7a4 : Md := (yJ0_indexOf_0f7a4, cJ0_indexOf_0f7a4, 2, (some .int), 10)
theorem ow_J0_indexOf_0f7a4 : mx_own dm_J0_indexOf_0f7a4 := ⟨by decide +kernel, by decide +kernel⟩
theorem md_J0_indexOf_0f7a4 : mx_D dm_J0_indexOf_0f7a4 1 := ⟨mx_gw (i := 710) (by decide +kernel), mx_gw (i := 65) (by decide +kernel), by decide +kernel, by decide +kernel⟩
def dm_J0_indexOf_7cf53 : Md := (yJ0_indexOf_7cf53, cJ0_indexOf_7cf53, 3, (some .int), 10)
theorem ow_J0_indexOf_7cf53 : mx_own dm_J0_indexOf_7cf53 := ⟨by decide +kernel, by decide +kernel⟩
theorem md_J0_indexOf_7cf53 : mx_D dm_J0_indexOf_7cf53 2 := ⟨mx_gw (i := 714) (by decide +kernel), mx_gw (i := 65) (by decide +kernel), by decide +kernel, by decide +kernel⟩
def dm_J0_coder_7d493 : Md := (yJ0_coder_7d493, cJ0_coder_7d493, 1, (some .byte), 10)
theorem ow_J0_coder_7d493 : mx_own dm_J0_coder_7d493 := ⟨by decide +kernel, by decide +kernel⟩
theorem md_J0_coder_7d493 : mx_D dm_J0_coder_7d493 0 := ⟨mx_gw (i := 630) (by decide +kernel), mx_gw (i := 65) (by decide +kernel), by decide +kernel, by decide +kernel⟩
def dm_J0_isLatin1_aae02 : Md := (yJ0_isLatin1_aae02, cJ0_isLatin1_aae02, 1, (some .boolean), 10)
theorem ow_J0_isLatin1_aae02 : mx_own dm_J0_isLatin1_aae02 := ⟨by decide +kernel, by decide +kernel⟩
theorem md_J0_isLatin1_aae02 : mx_D dm_J0_isLatin1_aae02 0 := ⟨mx_gw (i := 640) (by decide +kernel), mx_gw (i := 65) (by decide +kernel), by decide +kernel, by decide +kernel⟩
def dm_J1_charAt_3b067 : Md := (yJ1_charAt_3b067, cJ1_charAt_3b067, 2, (some .char), 11)
theorem ow_J1_charAt_3b067 : mx_own dm_J1_charAt_3b067 := ⟨by decide +kernel, by decide +kernel⟩
theorem md_J1_charAt_3b067 : mx_D dm_J1_charAt_3b067 2 := ⟨mx_gw (i := 643) (by decide +kernel), mx_gw (i := 66) (by decide +kernel), by decide +kernel, by decide +kernel⟩
def dm_J1_canEncode_9a6ad : Md := (yJ1_canEncode_9a6ad, cJ1_canEncode_9a6ad, 1, (some .boolean), 11)
theorem ow_J1_canEncode_9a6ad : mx_own dm_J1_canEncode_9a6ad := ⟨by decide +kernel, by decide +kernel⟩
theorem md_J1_canEncode_9a6ad : mx_D dm_J1_canEncode_9a6ad 1 := ⟨mx_gw (i := 721) (by decide +kernel), mx_gw (i := 66) (by decide +kernel), by decide +kernel, by decide +kernel⟩
def dm_J1_indexOf_4cfef : Md := (yJ1_indexOf_4cfef, cJ1_indexOf_4cfef, 4, (some .int), 11)
theorem ow_J1_indexOf_4cfef : mx_own dm_J1_indexOf_4cfef := ⟨by decide +kernel, by decide +kernel⟩
theorem md_J1_indexOf_4cfef : mx_D dm_J1_indexOf_4cfef 4 := ⟨mx_gw (i := 718) (by decide +kernel), mx_gw (i := 66) (by decide +kernel), by decide +kernel, by decide +kernel⟩
def dm_J1_indexOfChar_4cfef : Md := (yJ1_indexOfChar_4cfef, cJ1_indexOfChar_4cfef, 6, (some .int), 11)
theorem ow_J1_indexOfChar_4cfef : mx_own dm_J1_indexOfChar_4cfef := ⟨by decide +kernel, by decide +kernel⟩
theorem md_J1_indexOfChar_4cfef : mx_D dm_J1_indexOfChar_4cfef 4 := ⟨mx_gw (i := 726) (by decide +kernel), mx_gw (i := 66) (by decide +kernel), by decide +kernel, by decide +kernel⟩
theorem cs_X0_40 : mx_cS 0 40 dm_X7_isKind ∨ mx_cN 0 40 dm_X7_isKind := (Or.inr ⟨mx_nwi (i := 421) (by decide +kernel), mx_gw (i := 343) (by decide +kernel)⟩)
theorem cs_X0_44 : mx_cS 0 44 dm_X7_held ∨ mx_cN 0 44 dm_X7_held := (Or.inr ⟨mx_nwi (i := 481) (by decide +kernel), mx_gw (i := 400) (by decide +kernel)⟩)
theorem cv_X1_31 : mx_cV 1 31 dm_X1_addStep := ⟨mx_gw (i := 693) (by decide +kernel), mx_gw (i := 695) (by decide +kernel), mx_gw (i := 16) (by decide +kernel)⟩
theorem ci_X2_21 : mx_cI 2 21 dm_X1_init := ⟨(Or.inr (mx_nwi (i := 87) (by decide +kernel))), rfl, mx_gw (i := 88) (by decide +kernel), rfl⟩
theorem cv_X2_45 : mx_cV 2 45 dm_X2_goOn := ⟨mx_gw (i := 603) (by decide +kernel), mx_gw (i := 605) (by decide +kernel), mx_gw (i := 9) (by decide +kernel)⟩
theorem cv_X2_48 : mx_cV 2 48 dm_X2_keyHere := ⟨mx_gw (i := 614) (by decide +kernel), mx_gw (i := 616) (by decide +kernel), mx_gw (i := 11) (by decide +kernel)⟩
theorem cv_X2_52 : mx_cV 2 52 dm_X1_becomeNew := ⟨mx_gw (i := 673) (by decide +kernel), mx_gw (i := 674) (by decide +kernel), mx_gw (i := 675) (by decide +kernel)⟩
theorem cv_X2_56 : mx_cV 2 56 dm_X2_takesLevel := ⟨mx_gw (i := 677) (by decide +kernel), mx_gw (i := 679) (by decide +kernel), mx_gw (i := 13) (by decide +kernel)⟩
theorem cv_X2_60 : mx_cV 2 60 dm_X2_takesPiece := ⟨mx_gw (i := 681) (by decide +kernel), mx_gw (i := 683) (by decide +kernel), mx_gw (i := 14) (by decide +kernel)⟩
theorem cs_X2_64 : mx_cS 2 64 dm_X2_levelOf ∨ mx_cN 2 64 dm_X2_levelOf := (Or.inl ⟨mx_gw (i := 774) (by decide +kernel), mx_gw (i := 775) (by decide +kernel)⟩)
theorem cv_X2_68 : mx_cV 2 68 dm_X1_addSign := ⟨mx_gw (i := 766) (by decide +kernel), mx_gw (i := 767) (by decide +kernel), mx_gw (i := 768) (by decide +kernel)⟩
theorem cv_X2_71 : mx_cV 2 71 dm_X2_takesNumber := ⟨mx_gw (i := 685) (by decide +kernel), mx_gw (i := 687) (by decide +kernel), mx_gw (i := 15) (by decide +kernel)⟩
theorem cv_X2_75 : mx_cV 2 75 dm_X2_takesName := ⟨mx_gw (i := 697) (by decide +kernel), mx_gw (i := 699) (by decide +kernel), mx_gw (i := 17) (by decide +kernel)⟩
theorem cv_X2_78 : mx_cV 2 78 dm_X2_takesNot := ⟨mx_gw (i := 762) (by decide +kernel), mx_gw (i := 764) (by decide +kernel), mx_gw (i := 18) (by decide +kernel)⟩
theorem cv_X2_81 : mx_cV 2 81 dm_X2_takesInner := ⟨mx_gw (i := 770) (by decide +kernel), mx_gw (i := 772) (by decide +kernel), mx_gw (i := 19) (by decide +kernel)⟩
theorem cv_X2_84 : mx_cV 2 84 dm_X2_byteAt := ⟨mx_gw (i := 607) (by decide +kernel), mx_gw (i := 609) (by decide +kernel), mx_gw (i := 10) (by decide +kernel)⟩
theorem cv_X2_87 : mx_cV 2 87 dm_X1_addAtom := ⟨mx_gw (i := 689) (by decide +kernel), mx_gw (i := 690) (by decide +kernel), mx_gw (i := 691) (by decide +kernel)⟩
theorem cs_X2_93 : mx_cS 2 93 dm_X2_namesOf ∨ mx_cN 2 93 dm_X2_namesOf := (Or.inl ⟨mx_gw (i := 701) (by decide +kernel), mx_gw (i := 702) (by decide +kernel)⟩)
theorem cv_X2_97 : mx_cV 2 97 dm_J0_indexOf_0f7a4 := ⟨mx_gw (i := 707) (by decide +kernel), mx_gw (i := 708) (by decide +kernel), mx_gw (i := 709) (by decide +kernel)⟩
theorem cv_X2_110 : mx_cV 2 110 dm_X2_spells := ⟨mx_gw (i := 619) (by decide +kernel), mx_gw (i := 621) (by decide +kernel), mx_gw (i := 12) (by decide +kernel)⟩
theorem cv_X2_118 : mx_cV 2 118 dm_J0_length_8abf5 := ⟨mx_gw (i := 623) (by decide +kernel), mx_gw (i := 624) (by decide +kernel), mx_gw (i := 625) (by decide +kernel)⟩
theorem cv_X2_120 : mx_cV 2 120 dm_J0_charAt_5068e := ⟨mx_gw (i := 633) (by decide +kernel), mx_gw (i := 634) (by decide +kernel), mx_gw (i := 635) (by decide +kernel)⟩
theorem cs_X2_124 : mx_cS 2 124 dm_X2_sortOf ∨ mx_cN 2 124 dm_X2_sortOf := (Or.inl ⟨mx_gw (i := 611) (by decide +kernel), mx_gw (i := 612) (by decide +kernel)⟩)
theorem cs_X3_24 : mx_cS 3 24 dm_X3_named ∨ mx_cN 3 24 dm_X3_named := (Or.inl ⟨mx_gw (i := 393) (by decide +kernel), mx_gw (i := 394) (by decide +kernel)⟩)
theorem cs_X3_28 : mx_cS 3 28 dm_X3_joined ∨ mx_cN 3 28 dm_X3_joined := (Or.inl ⟨mx_gw (i := 396) (by decide +kernel), mx_gw (i := 397) (by decide +kernel)⟩)
theorem cv_X4_28 : mx_cV 4 28 dm_X4_has := ⟨mx_gw (i := 555) (by decide +kernel), mx_gw (i := 556) (by decide +kernel), mx_gw (i := 557) (by decide +kernel)⟩
theorem cv_X4_33 : mx_cV 4 33 dm_X4_isNumberAt := ⟨mx_gw (i := 567) (by decide +kernel), mx_gw (i := 552) (by decide +kernel), mx_gw (i := 553) (by decide +kernel)⟩
theorem ci_X5_20 : mx_cI 5 20 dm_X0_init := ⟨(Or.inr (mx_nwi (i := 167) (by decide +kernel))), rfl, mx_gw (i := 168) (by decide +kernel), rfl⟩
theorem ci_X5_27 : mx_cI 5 27 dm_X4_init := ⟨(Or.inr (mx_nwi (i := 211) (by decide +kernel))), rfl, mx_gw (i := 144) (by decide +kernel), rfl⟩
theorem ci_X6_23 : mx_cI 6 23 dm_X3_init := ⟨(Or.inr (mx_nwi (i := 239) (by decide +kernel))), rfl, mx_gw (i := 240) (by decide +kernel), rfl⟩
theorem ci_X6_54 : mx_cI 6 54 dm_X0_init := ⟨(Or.inr (mx_nwi (i := 247) (by decide +kernel))), rfl, mx_gw (i := 168) (by decide +kernel), rfl⟩
theorem cv_X6_55 : mx_cV 6 55 dm_X0_becomeLike := ⟨mx_gw (i := 494) (by decide +kernel), mx_gw (i := 495) (by decide +kernel), mx_gw (i := 496) (by decide +kernel)⟩
theorem cv_X6_59 : mx_cV 6 59 dm_X0_becomeNew := ⟨mx_gw (i := 356) (by decide +kernel), mx_gw (i := 357) (by decide +kernel), mx_gw (i := 358) (by decide +kernel)⟩
theorem cv_X6_64 : mx_cV 6 64 dm_X1_becomeLike := ⟨mx_gw (i := 782) (by decide +kernel), mx_gw (i := 783) (by decide +kernel), mx_gw (i := 784) (by decide +kernel)⟩
theorem cv_X6_73 : mx_cV 6 73 dm_X6_has := ⟨mx_gw (i := 376) (by decide +kernel), mx_gw (i := 365) (by decide +kernel), mx_gw (i := 366) (by decide +kernel)⟩
theorem cv_X6_80 : mx_cV 6 80 dm_X6_fairAt := ⟨mx_gw (i := 868) (by decide +kernel), mx_gw (i := 373) (by decide +kernel), mx_gw (i := 374) (by decide +kernel)⟩
theorem cv_X6_90 : mx_cV 6 90 dm_X6_lawFor := ⟨mx_gw (i := 385) (by decide +kernel), mx_gw (i := 386) (by decide +kernel), mx_gw (i := 387) (by decide +kernel)⟩
theorem cv_X6_97 : mx_cV 6 97 dm_X3_gives := ⟨mx_gw (i := 389) (by decide +kernel), mx_gw (i := 390) (by decide +kernel), mx_gw (i := 391) (by decide +kernel)⟩
theorem cs_X6_101 : mx_cS 6 101 dm_X7_held ∨ mx_cN 6 101 dm_X7_held := (Or.inr ⟨mx_nwi (i := 399) (by decide +kernel), mx_gw (i := 400) (by decide +kernel)⟩)
theorem cv_X6_105 : mx_cV 6 105 dm_X0_birthsByKind := ⟨mx_gw (i := 408) (by decide +kernel), mx_gw (i := 409) (by decide +kernel), mx_gw (i := 410) (by decide +kernel)⟩
theorem cv_X6_111 : mx_cV 6 111 dm_X6_draw := ⟨mx_gw (i := 467) (by decide +kernel), mx_gw (i := 451) (by decide +kernel), mx_gw (i := 452) (by decide +kernel)⟩
theorem cv_X6_115 : mx_cV 6 115 dm_X6_dayOf := ⟨mx_gw (i := 468) (by decide +kernel), mx_gw (i := 470) (by decide +kernel), mx_gw (i := 0) (by decide +kernel)⟩
theorem cv_X6_122 : mx_cV 6 122 dm_X6_birthsOf := ⟨mx_gw (i := 472) (by decide +kernel), mx_gw (i := 382) (by decide +kernel), mx_gw (i := 383) (by decide +kernel)⟩
theorem cv_X6_125 : mx_cV 6 125 dm_X6_wageOf := ⟨mx_gw (i := 473) (by decide +kernel), mx_gw (i := 474) (by decide +kernel), mx_gw (i := 475) (by decide +kernel)⟩
theorem cv_X6_129 : mx_cV 6 129 dm_X0_beginWeek := ⟨mx_gw (i := 477) (by decide +kernel), mx_gw (i := 478) (by decide +kernel), mx_gw (i := 479) (by decide +kernel)⟩
theorem ci_X7_23 : mx_cI 7 23 dm_X2_init := ⟨(Or.inr (mx_nwi (i := 81) (by decide +kernel))), rfl, mx_gw (i := 82) (by decide +kernel), rfl⟩
theorem ci_X7_30 : mx_cI 7 30 dm_X1_init := ⟨(Or.inr (mx_nwi (i := 136) (by decide +kernel))), rfl, mx_gw (i := 88) (by decide +kernel), rfl⟩
theorem ci_X7_60 : mx_cI 7 60 dm_X4_init := ⟨(Or.inr (mx_nwi (i := 143) (by decide +kernel))), rfl, mx_gw (i := 144) (by decide +kernel), rfl⟩
theorem ci_X7_61 : mx_cI 7 61 dm_X5_init := ⟨(Or.inr (mx_nwi (i := 161) (by decide +kernel))), rfl, mx_gw (i := 162) (by decide +kernel), rfl⟩
theorem ci_X7_68 : mx_cI 7 68 dm_X6_init := ⟨(Or.inl (mx_gw (i := 231) (by decide +kernel))), rfl, mx_gw (i := 232) (by decide +kernel), rfl⟩
theorem cs_X7_81 : mx_cS 7 81 dm_X7_isKind ∨ mx_cN 7 81 dm_X7_isKind := (Or.inl ⟨mx_gw (i := 342) (by decide +kernel), mx_gw (i := 343) (by decide +kernel)⟩)
theorem cs_X7_85 : mx_cS 7 85 dm_X7_within ∨ mx_cN 7 85 dm_X7_within := (Or.inl ⟨mx_gw (i := 347) (by decide +kernel), mx_gw (i := 348) (by decide +kernel)⟩)
theorem cv_X7_94 : mx_cV 7 94 dm_X6_addDistrict := ⟨mx_gw (i := 352) (by decide +kernel), mx_gw (i := 353) (by decide +kernel), mx_gw (i := 354) (by decide +kernel)⟩
theorem cv_X7_98 : mx_cV 7 98 dm_X6_has := ⟨mx_gw (i := 364) (by decide +kernel), mx_gw (i := 365) (by decide +kernel), mx_gw (i := 366) (by decide +kernel)⟩
theorem cv_X7_131 : mx_cV 7 131 dm_X0_worth := ⟨mx_gw (i := 368) (by decide +kernel), mx_gw (i := 369) (by decide +kernel), mx_gw (i := 370) (by decide +kernel)⟩
theorem cv_X7_135 : mx_cV 7 135 dm_X6_fairAt := ⟨mx_gw (i := 372) (by decide +kernel), mx_gw (i := 373) (by decide +kernel), mx_gw (i := 374) (by decide +kernel)⟩
theorem cv_X7_139 : mx_cV 7 139 dm_X6_birthsOf := ⟨mx_gw (i := 381) (by decide +kernel), mx_gw (i := 382) (by decide +kernel), mx_gw (i := 383) (by decide +kernel)⟩
theorem cv_X7_143 : mx_cV 7 143 dm_X0_isOf := ⟨mx_gw (i := 416) (by decide +kernel), mx_gw (i := 417) (by decide +kernel), mx_gw (i := 418) (by decide +kernel)⟩
theorem cv_X7_150 : mx_cV 7 150 dm_X0_hideOne := ⟨mx_gw (i := 438) (by decide +kernel), mx_gw (i := 439) (by decide +kernel), mx_gw (i := 440) (by decide +kernel)⟩
theorem cv_X7_168 : mx_cV 7 168 dm_X6_draw := ⟨mx_gw (i := 450) (by decide +kernel), mx_gw (i := 451) (by decide +kernel), mx_gw (i := 452) (by decide +kernel)⟩
theorem cv_X7_177 : mx_cV 7 177 dm_X6_liveDay := ⟨mx_gw (i := 463) (by decide +kernel), mx_gw (i := 464) (by decide +kernel), mx_gw (i := 465) (by decide +kernel)⟩
theorem cv_X7_180 : mx_cV 7 180 dm_X7_thinkFromNow := ⟨mx_gw (i := 486) (by decide +kernel), mx_gw (i := 488) (by decide +kernel), mx_gw (i := 1) (by decide +kernel)⟩
theorem cs_X7_183 : mx_cS 7 183 dm_X7_only ∨ mx_cN 7 183 dm_X7_only := (Or.inl ⟨mx_gw (i := 498) (by decide +kernel), mx_gw (i := 499) (by decide +kernel)⟩)
theorem cv_X7_186 : mx_cV 7 186 dm_X7_thinkOn := ⟨mx_gw (i := 501) (by decide +kernel), mx_gw (i := 503) (by decide +kernel), mx_gw (i := 2) (by decide +kernel)⟩
theorem cv_X7_190 : mx_cV 7 190 dm_X7_tradeOneDay := ⟨mx_gw (i := 518) (by decide +kernel), mx_gw (i := 520) (by decide +kernel), mx_gw (i := 3) (by decide +kernel)⟩
theorem cv_X7_193 : mx_cV 7 193 dm_X7_mostSeenAt := ⟨mx_gw (i := 522) (by decide +kernel), mx_gw (i := 524) (by decide +kernel), mx_gw (i := 4) (by decide +kernel)⟩
theorem cv_X7_196 : mx_cV 7 196 dm_X7_isSheet := ⟨mx_gw (i := 538) (by decide +kernel), mx_gw (i := 540) (by decide +kernel), mx_gw (i := 5) (by decide +kernel)⟩
theorem cv_X7_199 : mx_cV 7 199 dm_X4_isMissing := ⟨mx_gw (i := 542) (by decide +kernel), mx_gw (i := 543) (by decide +kernel), mx_gw (i := 544) (by decide +kernel)⟩
theorem cv_X7_204 : mx_cV 7 204 dm_X7_differences := ⟨mx_gw (i := 547) (by decide +kernel), mx_gw (i := 549) (by decide +kernel), mx_gw (i := 6) (by decide +kernel)⟩
theorem cv_X7_208 : mx_cV 7 208 dm_X6_lawFor := ⟨mx_gw (i := 576) (by decide +kernel), mx_gw (i := 386) (by decide +kernel), mx_gw (i := 387) (by decide +kernel)⟩
theorem cv_X7_216 : mx_cV 7 216 dm_X6_bornOfAll := ⟨mx_gw (i := 577) (by decide +kernel), mx_gw (i := 578) (by decide +kernel), mx_gw (i := 579) (by decide +kernel)⟩
theorem cv_X7_219 : mx_cV 7 219 dm_X3_gives := ⟨mx_gw (i := 581) (by decide +kernel), mx_gw (i := 390) (by decide +kernel), mx_gw (i := 391) (by decide +kernel)⟩
theorem cv_X7_225 : mx_cV 7 225 dm_X7_feedOne := ⟨mx_gw (i := 586) (by decide +kernel), mx_gw (i := 588) (by decide +kernel), mx_gw (i := 8) (by decide +kernel)⟩
theorem cv_X7_229 : mx_cV 7 229 dm_X2_understands := ⟨mx_gw (i := 598) (by decide +kernel), mx_gw (i := 599) (by decide +kernel), mx_gw (i := 600) (by decide +kernel)⟩
theorem cv_X7_239 : mx_cV 7 239 dm_X6_addLaw := ⟨mx_gw (i := 777) (by decide +kernel), mx_gw (i := 778) (by decide +kernel), mx_gw (i := 779) (by decide +kernel)⟩
theorem cv_X7_252 : mx_cV 7 252 dm_X4_become := ⟨mx_gw (i := 801) (by decide +kernel), mx_gw (i := 802) (by decide +kernel), mx_gw (i := 803) (by decide +kernel)⟩
theorem cv_X7_256 : mx_cV 7 256 dm_X4_has := ⟨mx_gw (i := 810) (by decide +kernel), mx_gw (i := 556) (by decide +kernel), mx_gw (i := 557) (by decide +kernel)⟩
theorem cv_X7_264 : mx_cV 7 264 dm_X4_isNumberAt := ⟨mx_gw (i := 551) (by decide +kernel), mx_gw (i := 552) (by decide +kernel), mx_gw (i := 553) (by decide +kernel)⟩
theorem cs_X7_267 : mx_cS 7 267 dm_X7_held ∨ mx_cN 7 267 dm_X7_held := (Or.inl ⟨mx_gw (i := 816) (by decide +kernel), mx_gw (i := 400) (by decide +kernel)⟩)
theorem cv_X7_274 : mx_cV 7 274 dm_X4_hasRun := ⟨mx_gw (i := 825) (by decide +kernel), mx_gw (i := 826) (by decide +kernel), mx_gw (i := 827) (by decide +kernel)⟩
theorem cv_X7_284 : mx_cV 7 284 dm_X7_isSlot := ⟨mx_gw (i := 834) (by decide +kernel), mx_gw (i := 836) (by decide +kernel), mx_gw (i := 20) (by decide +kernel)⟩
theorem cv_X7_294 : mx_cV 7 294 dm_X0_becomeLike := ⟨mx_gw (i := 838) (by decide +kernel), mx_gw (i := 495) (by decide +kernel), mx_gw (i := 496) (by decide +kernel)⟩
theorem cv_X7_302 : mx_cV 7 302 dm_X4_becomeLike := ⟨mx_gw (i := 839) (by decide +kernel), mx_gw (i := 840) (by decide +kernel), mx_gw (i := 841) (by decide +kernel)⟩
theorem cv_X7_308 : mx_cV 7 308 dm_X6_becomeLike := ⟨mx_gw (i := 490) (by decide +kernel), mx_gw (i := 491) (by decide +kernel), mx_gw (i := 492) (by decide +kernel)⟩
theorem cv_X7_311 : mx_cV 7 311 dm_X6_fairs := ⟨mx_gw (i := 864) (by decide +kernel), mx_gw (i := 865) (by decide +kernel), mx_gw (i := 866) (by decide +kernel)⟩
theorem cv_X7_314 : mx_cV 7 314 dm_X7_stands := ⟨mx_gw (i := 869) (by decide +kernel), mx_gw (i := 871) (by decide +kernel), mx_gw (i := 21) (by decide +kernel)⟩
theorem cv_X7_317 : mx_cV 7 317 dm_X6_pursesOfAll := ⟨mx_gw (i := 873) (by decide +kernel), mx_gw (i := 874) (by decide +kernel), mx_gw (i := 875) (by decide +kernel)⟩
theorem cv_X7_329 : mx_cV 7 329 dm_X4_hasNumberBehind := ⟨mx_gw (i := 563) (by decide +kernel), mx_gw (i := 564) (by decide +kernel), mx_gw (i := 565) (by decide +kernel)⟩
theorem cv_X7_332 : mx_cV 7 332 dm_X7_thinkTillNextWeek := ⟨mx_gw (i := 568) (by decide +kernel), mx_gw (i := 570) (by decide +kernel), mx_gw (i := 7) (by decide +kernel)⟩
theorem cs_X8_81 : mx_cS 8 81 dm_X8_in ∨ mx_cN 8 81 dm_X8_in := (Or.inl ⟨mx_gw (i := 1007) (by decide +kernel), mx_gw (i := 1008) (by decide +kernel)⟩)
theorem cv_X8_85 : mx_cV 8 85 dm_X8_put := ⟨mx_gw (i := 1016) (by decide +kernel), mx_gw (i := 1018) (by decide +kernel), mx_gw (i := 23) (by decide +kernel)⟩
theorem cv_X8_91 : mx_cV 8 91 dm_X8_comes := ⟨mx_gw (i := 1012) (by decide +kernel), mx_gw (i := 1014) (by decide +kernel), mx_gw (i := 22) (by decide +kernel)⟩
theorem cv_X8_95 : mx_cV 8 95 dm_X8_of := ⟨mx_gw (i := 1028) (by decide +kernel), mx_gw (i := 1030) (by decide +kernel), mx_gw (i := 25) (by decide +kernel)⟩
theorem cv_X8_98 : mx_cV 8 98 dm_X8_isDistrict := ⟨mx_gw (i := 1024) (by decide +kernel), mx_gw (i := 1026) (by decide +kernel), mx_gw (i := 24) (by decide +kernel)⟩
theorem cv_X8_102 : mx_cV 8 102 dm_X8_worthOf := ⟨mx_gw (i := 1032) (by decide +kernel), mx_gw (i := 1034) (by decide +kernel), mx_gw (i := 26) (by decide +kernel)⟩
theorem cv_X8_106 : mx_cV 8 106 dm_X8_isFair := ⟨mx_gw (i := 1036) (by decide +kernel), mx_gw (i := 1038) (by decide +kernel), mx_gw (i := 27) (by decide +kernel)⟩
theorem cv_X8_109 : mx_cV 8 109 dm_X8_counts := ⟨mx_gw (i := 1048) (by decide +kernel), mx_gw (i := 1050) (by decide +kernel), mx_gw (i := 29) (by decide +kernel)⟩
theorem cv_X8_112 : mx_cV 8 112 dm_X8_worksOut := ⟨mx_gw (i := 1052) (by decide +kernel), mx_gw (i := 1054) (by decide +kernel), mx_gw (i := 30) (by decide +kernel)⟩
theorem cs_X8_115 : mx_cS 8 115 dm_X8_within ∨ mx_cN 8 115 dm_X8_within := (Or.inl ⟨mx_gw (i := 1059) (by decide +kernel), mx_gw (i := 1060) (by decide +kernel)⟩)
theorem cv_X8_119 : mx_cV 8 119 dm_X8_birthsOf := ⟨mx_gw (i := 1044) (by decide +kernel), mx_gw (i := 1046) (by decide +kernel), mx_gw (i := 28) (by decide +kernel)⟩
theorem cs_X8_122 : mx_cS 8 122 dm_X8_isUnder ∨ mx_cN 8 122 dm_X8_isUnder := (Or.inl ⟨mx_gw (i := 1066) (by decide +kernel), mx_gw (i := 1067) (by decide +kernel)⟩)
theorem cv_X8_127 : mx_cV 8 127 dm_X8_becomes := ⟨mx_gw (i := 1074) (by decide +kernel), mx_gw (i := 1076) (by decide +kernel), mx_gw (i := 31) (by decide +kernel)⟩
theorem cv_X8_133 : mx_cV 8 133 dm_X8_hides := ⟨mx_gw (i := 1089) (by decide +kernel), mx_gw (i := 1091) (by decide +kernel), mx_gw (i := 32) (by decide +kernel)⟩
theorem cv_X8_138 : mx_cV 8 138 dm_X8_draw := ⟨mx_gw (i := 1101) (by decide +kernel), mx_gw (i := 1103) (by decide +kernel), mx_gw (i := 33) (by decide +kernel)⟩
theorem cv_X8_142 : mx_cV 8 142 dm_X8_wageOf := ⟨mx_gw (i := 1126) (by decide +kernel), mx_gw (i := 1128) (by decide +kernel), mx_gw (i := 37) (by decide +kernel)⟩
theorem cv_X8_145 : mx_cV 8 145 dm_X8_weekEnds := ⟨mx_gw (i := 1122) (by decide +kernel), mx_gw (i := 1124) (by decide +kernel), mx_gw (i := 36) (by decide +kernel)⟩
theorem cv_X8_148 : mx_cV 8 148 dm_X8_day := ⟨mx_gw (i := 1118) (by decide +kernel), mx_gw (i := 1120) (by decide +kernel), mx_gw (i := 35) (by decide +kernel)⟩
theorem cv_X8_151 : mx_cV 8 151 dm_X8_goesOn := ⟨mx_gw (i := 1114) (by decide +kernel), mx_gw (i := 1116) (by decide +kernel), mx_gw (i := 34) (by decide +kernel)⟩
theorem cv_X8_154 : mx_cV 8 154 dm_X8_thinks := ⟨mx_gw (i := 1134) (by decide +kernel), mx_gw (i := 1136) (by decide +kernel), mx_gw (i := 38) (by decide +kernel)⟩
theorem cv_X8_157 : mx_cV 8 157 dm_X8_putsBack := ⟨mx_gw (i := 1138) (by decide +kernel), mx_gw (i := 1140) (by decide +kernel), mx_gw (i := 39) (by decide +kernel)⟩
theorem cv_X8_161 : mx_cV 8 161 dm_X8_trades := ⟨mx_gw (i := 1155) (by decide +kernel), mx_gw (i := 1157) (by decide +kernel), mx_gw (i := 40) (by decide +kernel)⟩
theorem cs_X8_164 : mx_cS 8 164 dm_X8_isSheet ∨ mx_cN 8 164 dm_X8_isSheet := (Or.inl ⟨mx_gw (i := 1171) (by decide +kernel), mx_gw (i := 1172) (by decide +kernel)⟩)
theorem cv_X8_168 : mx_cV 8 168 dm_X8_offBy := ⟨mx_gw (i := 1175) (by decide +kernel), mx_gw (i := 1177) (by decide +kernel), mx_gw (i := 41) (by decide +kernel)⟩
theorem cv_X8_172 : mx_cV 8 172 dm_X8_sumOf := ⟨mx_gw (i := 1183) (by decide +kernel), mx_gw (i := 1185) (by decide +kernel), mx_gw (i := 42) (by decide +kernel)⟩
theorem cv_X8_191 : mx_cV 8 191 dm_X8_isLetter := ⟨mx_gw (i := 1203) (by decide +kernel), mx_gw (i := 1205) (by decide +kernel), mx_gw (i := 44) (by decide +kernel)⟩
theorem cv_X8_197 : mx_cV 8 197 dm_X8_isFigure := ⟨mx_gw (i := 1207) (by decide +kernel), mx_gw (i := 1209) (by decide +kernel), mx_gw (i := 45) (by decide +kernel)⟩
theorem cv_X8_203 : mx_cV 8 203 dm_X8_go := ⟨mx_gw (i := 1199) (by decide +kernel), mx_gw (i := 1201) (by decide +kernel), mx_gw (i := 43) (by decide +kernel)⟩
theorem cs_X8_209 : mx_cS 8 209 dm_X8_rank ∨ mx_cN 8 209 dm_X8_rank := (Or.inl ⟨mx_gw (i := 1231) (by decide +kernel), mx_gw (i := 1232) (by decide +kernel)⟩)
theorem cv_X8_215 : mx_cV 8 215 dm_X8_nameOf := ⟨mx_gw (i := 1223) (by decide +kernel), mx_gw (i := 1225) (by decide +kernel), mx_gw (i := 49) (by decide +kernel)⟩
theorem cv_X8_221 : mx_cV 8 221 dm_X8_settle := ⟨mx_gw (i := 1227) (by decide +kernel), mx_gw (i := 1229) (by decide +kernel), mx_gw (i := 50) (by decide +kernel)⟩
theorem cv_X8_224 : mx_cV 8 224 dm_X8_takesPart := ⟨mx_gw (i := 1219) (by decide +kernel), mx_gw (i := 1221) (by decide +kernel), mx_gw (i := 48) (by decide +kernel)⟩
theorem cv_X8_228 : mx_cV 8 228 dm_X8_notsOpen := ⟨mx_gw (i := 1234) (by decide +kernel), mx_gw (i := 1236) (by decide +kernel), mx_gw (i := 51) (by decide +kernel)⟩
theorem cv_X8_231 : mx_cV 8 231 dm_X8_signHere := ⟨mx_gw (i := 1238) (by decide +kernel), mx_gw (i := 1240) (by decide +kernel), mx_gw (i := 52) (by decide +kernel)⟩
theorem cv_X8_234 : mx_cV 8 234 dm_X8_takesKey := ⟨mx_gw (i := 1211) (by decide +kernel), mx_gw (i := 1213) (by decide +kernel), mx_gw (i := 46) (by decide +kernel)⟩
theorem cv_X8_237 : mx_cV 8 237 dm_X8_takesE := ⟨mx_gw (i := 1215) (by decide +kernel), mx_gw (i := 1217) (by decide +kernel), mx_gw (i := 47) (by decide +kernel)⟩
theorem cs_X8_240 : mx_cS 8 240 dm_X8_two ∨ mx_cN 8 240 dm_X8_two := (Or.inl ⟨mx_gw (i := 1056) (by decide +kernel), mx_gw (i := 1057) (by decide +kernel)⟩)
theorem cs_X8_245 : mx_cS 8 245 dm_X8_isSlot ∨ mx_cN 8 245 dm_X8_isSlot := (Or.inl ⟨mx_gw (i := 1276) (by decide +kernel), mx_gw (i := 1277) (by decide +kernel)⟩)
theorem cs_X8_255 : mx_cS 8 255 dm_X8_copyAll ∨ mx_cN 8 255 dm_X8_copyAll := (Or.inl ⟨mx_gw (i := 1299) (by decide +kernel), mx_gw (i := 1300) (by decide +kernel)⟩)
theorem cv_X8_259 : mx_cV 8 259 dm_X8_fairs := ⟨mx_gw (i := 1302) (by decide +kernel), mx_gw (i := 1304) (by decide +kernel), mx_gw (i := 53) (by decide +kernel)⟩
theorem cv_J0_335 : mx_cV 10 335 dm_J0_coder_7d493 := ⟨mx_gw (i := 627) (by decide +kernel), mx_gw (i := 628) (by decide +kernel), mx_gw (i := 629) (by decide +kernel)⟩
theorem cv_J0_492 : mx_cV 10 492 dm_J0_isLatin1_aae02 := ⟨mx_gw (i := 637) (by decide +kernel), mx_gw (i := 638) (by decide +kernel), mx_gw (i := 639) (by decide +kernel)⟩
theorem cs_J0_495 : mx_cS 10 495 dm_J1_charAt_3b067 ∨ mx_cN 10 495 dm_J1_charAt_3b067 := (Or.inl ⟨mx_gw (i := 641) (by decide +kernel), mx_gw (i := 642) (by decide +kernel)⟩)
theorem cv_J0_633 : mx_cV 10 633 dm_J0_indexOf_7cf53 := ⟨mx_gw (i := 711) (by decide +kernel), mx_gw (i := 712) (by decide +kernel), mx_gw (i := 713) (by decide +kernel)⟩
theorem cv_J0_505 : mx_cV 10 505 dm_J0_length_8abf5 := ⟨mx_gw (i := 715) (by decide +kernel), mx_gw (i := 624) (by decide +kernel), mx_gw (i := 625) (by decide +kernel)⟩
theorem cs_J0_637 : mx_cS 10 637 dm_J1_indexOf_4cfef ∨ mx_cN 10 637 dm_J1_indexOf_4cfef := (Or.inl ⟨mx_gw (i := 716) (by decide +kernel), mx_gw (i := 717) (by decide +kernel)⟩)
theorem cs_J1_88 : mx_cS 11 88 dm_J1_canEncode_9a6ad ∨ mx_cN 11 88 dm_J1_canEncode_9a6ad := (Or.inl ⟨mx_gw (i := 719) (by decide +kernel), mx_gw (i := 720) (by decide +kernel)⟩)
theorem cs_J1_95 : mx_cS 11 95 dm_J1_indexOfChar_4cfef ∨ mx_cN 11 95 dm_J1_indexOfChar_4cfef := (Or.inl ⟨mx_gw (i := 724) (by decide +kernel), mx_gw (i := 725) (by decide +kernel)⟩)
