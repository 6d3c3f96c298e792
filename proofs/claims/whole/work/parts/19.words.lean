/-! methods -/
abbrev mX6_init : jM := (yX6_init, cX6_init, 2, none)
theorem cal_X6_init : jcal mX6_init 0 := ⟨List.mem_of_getElem? (i := 78) (by decide +kernel), List.mem_of_getElem? (i := 59) (by decide +kernel), ⟨by decide +kernel, by decide +kernel⟩, by decide +kernel, by decide +kernel, by decide⟩
abbrev mX5_init : jM := (yX5_init, cX5_init, 1, none)
theorem cal_X5_init : jcal mX5_init 0 := ⟨List.mem_of_getElem? (i := 86) (by decide +kernel), List.mem_of_getElem? (i := 60) (by decide +kernel), ⟨by decide +kernel, by decide +kernel⟩, by decide +kernel, by decide +kernel, by decide⟩
abbrev mX3_init : jM := (yX3_init, cX3_init, 2, none)
theorem cal_X3_init : jcal mX3_init 1 := ⟨List.mem_of_getElem? (i := 92) (by decide +kernel), List.mem_of_getElem? (i := 61) (by decide +kernel), ⟨by decide +kernel, by decide +kernel⟩, by decide +kernel, by decide +kernel, by decide⟩
abbrev mX1_init : jM := (yX1_init, cX1_init, 2, none)
theorem cal_X1_init : jcal mX1_init 1 := ⟨List.mem_of_getElem? (i := 130) (by decide +kernel), List.mem_of_getElem? (i := 63) (by decide +kernel), ⟨by decide +kernel, by decide +kernel⟩, by decide +kernel, by decide +kernel, by decide⟩
abbrev mX0_init : jM := (yX0_init, cX0_init, 1, none)
theorem cal_X0_init : jcal mX0_init 0 := ⟨List.mem_of_getElem? (i := 142) (by decide +kernel), List.mem_of_getElem? (i := 64) (by decide +kernel), ⟨by decide +kernel, by decide +kernel⟩, by decide +kernel, by decide +kernel, by decide⟩
abbrev mX2_init : jM := (yX2_init, cX2_init, 1, none)
theorem cal_X2_init : jcal mX2_init 0 := ⟨List.mem_of_getElem? (i := 148) (by decide +kernel), List.mem_of_getElem? (i := 65) (by decide +kernel), ⟨by decide +kernel, by decide +kernel⟩, by decide +kernel, by decide +kernel, by decide⟩
abbrev mX4_init : jM := (yX4_init, cX4_init, 1, none)
theorem cal_X4_init : jcal mX4_init 0 := ⟨List.mem_of_getElem? (i := 212) (by decide +kernel), List.mem_of_getElem? (i := 66) (by decide +kernel), ⟨by decide +kernel, by decide +kernel⟩, by decide +kernel, by decide +kernel, by decide⟩
abbrev mX6_type : jM := (yX6_type, cX6_type, 6, some .boolean)
theorem cal_X6_type : jcal mX6_type 1 := ⟨List.mem_of_getElem? (i := 272) (by decide +kernel), List.mem_of_getElem? (i := 59) (by decide +kernel), ⟨by decide +kernel, by decide +kernel⟩, by decide +kernel, by decide +kernel, by decide⟩
abbrev mX6_byteOf : jM := (yX6_byteOf, cX6_byteOf, 3, some .int)
theorem cal_X6_byteOf : jcal mX6_byteOf 2 := ⟨List.mem_of_getElem? (i := 275) (by decide +kernel), List.mem_of_getElem? (i := 59) (by decide +kernel), ⟨by decide +kernel, by decide +kernel⟩, by decide +kernel, by decide +kernel, by decide⟩
abbrev mX5_size : jM := (yX5_size, cX5_size, 1, some .int)
theorem cal_X5_size : jcal mX5_size 0 := ⟨List.mem_of_getElem? (i := 279) (by decide +kernel), List.mem_of_getElem? (i := 60) (by decide +kernel), ⟨by decide +kernel, by decide +kernel⟩, by decide +kernel, by decide +kernel, by decide⟩
abbrev mX3_size : jM := (yX3_size, cX3_size, 1, some .int)
theorem cal_X3_size : jcal mX3_size 0 := ⟨List.mem_of_getElem? (i := 283) (by decide +kernel), List.mem_of_getElem? (i := 61) (by decide +kernel), ⟨by decide +kernel, by decide +kernel⟩, by decide +kernel, by decide +kernel, by decide⟩
abbrev mX5_add : jM := (yX5_add, cX5_add, 2, none)
theorem cal_X5_add : jcal mX5_add 1 := ⟨List.mem_of_getElem? (i := 287) (by decide +kernel), List.mem_of_getElem? (i := 60) (by decide +kernel), ⟨by decide +kernel, by decide +kernel⟩, by decide +kernel, by decide +kernel, by decide⟩
abbrev mX3_add : jM := (yX3_add, cX3_add, 2, none)
theorem cal_X3_add : jcal mX3_add 1 := ⟨List.mem_of_getElem? (i := 291) (by decide +kernel), List.mem_of_getElem? (i := 61) (by decide +kernel), ⟨by decide +kernel, by decide +kernel⟩, by decide +kernel, by decide +kernel, by decide⟩
abbrev mX6_wipe : jM := (yX6_wipe, cX6_wipe, 1, none)
theorem cal_X6_wipe : jcal mX6_wipe 0 := ⟨List.mem_of_getElem? (i := 295) (by decide +kernel), List.mem_of_getElem? (i := 59) (by decide +kernel), ⟨by decide +kernel, by decide +kernel⟩, by decide +kernel, by decide +kernel, by decide⟩
abbrev mX5_empty : jM := (yX5_empty, cX5_empty, 1, none)
theorem cal_X5_empty : jcal mX5_empty 0 := ⟨List.mem_of_getElem? (i := 299) (by decide +kernel), List.mem_of_getElem? (i := 60) (by decide +kernel), ⟨by decide +kernel, by decide +kernel⟩, by decide +kernel, by decide +kernel, by decide⟩
abbrev mX3_empty : jM := (yX3_empty, cX3_empty, 1, none)
theorem cal_X3_empty : jcal mX3_empty 0 := ⟨List.mem_of_getElem? (i := 303) (by decide +kernel), List.mem_of_getElem? (i := 61) (by decide +kernel), ⟨by decide +kernel, by decide +kernel⟩, by decide +kernel, by decide +kernel, by decide⟩
abbrev mX6_length : jM := (yX6_length, cX6_length, 1, some .int)
theorem cal_X6_length : jcal mX6_length 0 := ⟨List.mem_of_getElem? (i := 307) (by decide +kernel), List.mem_of_getElem? (i := 59) (by decide +kernel), ⟨by decide +kernel, by decide +kernel⟩, by decide +kernel, by decide +kernel, by decide⟩
abbrev mX6_fault : jM := (yX6_fault, cX6_fault, 1, some .int)
theorem cal_X6_fault : jcal mX6_fault 0 := ⟨List.mem_of_getElem? (i := 311) (by decide +kernel), List.mem_of_getElem? (i := 59) (by decide +kernel), ⟨by decide +kernel, by decide +kernel⟩, by decide +kernel, by decide +kernel, by decide⟩
abbrev mL_slot : jM := (yL_slot, cL_slot, 7, some .int)
abbrev hL_slot : List (Nat × Nat × Nat × Nat) := [(0, 14, 17, 13), (0, 14, 21, 15)]
abbrev mX6_slot : jM := (yX6_slot, cX6_slot, 6, some .int)
theorem cal_X6_slot : jcal mX6_slot 4 := ⟨List.mem_of_getElem? (i := 320) (by decide +kernel), List.mem_of_getElem? (i := 59) (by decide +kernel), ⟨by decide +kernel, by decide +kernel⟩, by decide +kernel, by decide +kernel, by decide⟩
abbrev mX6_tableOf : jM := (yX6_tableOf, cX6_tableOf, 2, some (.object "InterchangeDesk$Table"))
theorem cal_X6_tableOf : jcal mX6_tableOf 1 := ⟨List.mem_of_getElem? (i := 324) (by decide +kernel), List.mem_of_getElem? (i := 59) (by decide +kernel), ⟨by decide +kernel, by decide +kernel⟩, by decide +kernel, by decide +kernel, by decide⟩
abbrev mX6_isTag : jM := (yX6_isTag, cX6_isTag, 1, some .boolean)
theorem cal_X6_isTag : jcal mX6_isTag 1 := ⟨List.mem_of_getElem? (i := 327) (by decide +kernel), List.mem_of_getElem? (i := 59) (by decide +kernel), ⟨by decide +kernel, by decide +kernel⟩, by decide +kernel, by decide +kernel, by decide⟩
abbrev mX6_isCapital : jM := (yX6_isCapital, cX6_isCapital, 1, some .boolean)
theorem cal_X6_isCapital : jcal mX6_isCapital 1 := ⟨List.mem_of_getElem? (i := 330) (by decide +kernel), List.mem_of_getElem? (i := 59) (by decide +kernel), ⟨by decide +kernel, by decide +kernel⟩, by decide +kernel, by decide +kernel, by decide⟩
abbrev mX6_isEnvelopeTag : jM := (yX6_isEnvelopeTag, cX6_isEnvelopeTag, 1, some .boolean)
theorem cal_X6_isEnvelopeTag : jcal mX6_isEnvelopeTag 1 := ⟨List.mem_of_getElem? (i := 333) (by decide +kernel), List.mem_of_getElem? (i := 59) (by decide +kernel), ⟨by decide +kernel, by decide +kernel⟩, by decide +kernel, by decide +kernel, by decide⟩
abbrev mX6_isMost : jM := (yX6_isMost, cX6_isMost, 1, some .boolean)
theorem cal_X6_isMost : jcal mX6_isMost 1 := ⟨List.mem_of_getElem? (i := 342) (by decide +kernel), List.mem_of_getElem? (i := 59) (by decide +kernel), ⟨by decide +kernel, by decide +kernel⟩, by decide +kernel, by decide +kernel, by decide⟩
abbrev mX4_isFull : jM := (yX4_isFull, cX4_isFull, 1, some .boolean)
theorem cal_X4_isFull : jcal mX4_isFull 0 := ⟨List.mem_of_getElem? (i := 414) (by decide +kernel), List.mem_of_getElem? (i := 66) (by decide +kernel), ⟨by decide +kernel, by decide +kernel⟩, by decide +kernel, by decide +kernel, by decide⟩
abbrev mX4_wantsTrigger : jM := (yX4_wantsTrigger, cX4_wantsTrigger, 1, some .boolean)
theorem cal_X4_wantsTrigger : jcal mX4_wantsTrigger 0 := ⟨List.mem_of_getElem? (i := 419) (by decide +kernel), List.mem_of_getElem? (i := 66) (by decide +kernel), ⟨by decide +kernel, by decide +kernel⟩, by decide +kernel, by decide +kernel, by decide⟩
abbrev mX4_addSegment : jM := (yX4_addSegment, cX4_addSegment, 4, some .int)
theorem cal_X4_addSegment : jcal mX4_addSegment 3 := ⟨List.mem_of_getElem? (i := 439) (by decide +kernel), List.mem_of_getElem? (i := 66) (by decide +kernel), ⟨by decide +kernel, by decide +kernel⟩, by decide +kernel, by decide +kernel, by decide⟩
abbrev mL_open : jM := (yL_open, cL_open, 6, some .int)
abbrev hL_open : List (Nat × Nat × Nat × Nat) := [(0, 12, 15, 13), (0, 12, 19, 15)]
abbrev mX6_open : jM := (yX6_open, cX6_open, 5, some .int)
theorem cal_X6_open : jcal mX6_open 3 := ⟨List.mem_of_getElem? (i := 447) (by decide +kernel), List.mem_of_getElem? (i := 59) (by decide +kernel), ⟨by decide +kernel, by decide +kernel⟩, by decide +kernel, by decide +kernel, by decide⟩
abbrev mX4_isDeepest : jM := (yX4_isDeepest, cX4_isDeepest, 1, some .boolean)
theorem cal_X4_isDeepest : jcal mX4_isDeepest 0 := ⟨List.mem_of_getElem? (i := 452) (by decide +kernel), List.mem_of_getElem? (i := 66) (by decide +kernel), ⟨by decide +kernel, by decide +kernel⟩, by decide +kernel, by decide +kernel, by decide⟩
abbrev mX4_addGroup : jM := (yX4_addGroup, cX4_addGroup, 4, some .int)
theorem cal_X4_addGroup : jcal mX4_addGroup 2 := ⟨List.mem_of_getElem? (i := 457) (by decide +kernel), List.mem_of_getElem? (i := 66) (by decide +kernel), ⟨by decide +kernel, by decide +kernel⟩, by decide +kernel, by decide +kernel, by decide⟩
abbrev mL_close : jM := (yL_close, cL_close, 4, some .int)
abbrev hL_close : List (Nat × Nat × Nat × Nat) := [(0, 16, 19, 13)]
abbrev mX6_close : jM := (yX6_close, cX6_close, 3, some .boolean)
theorem cal_X6_close : jcal mX6_close 1 := ⟨List.mem_of_getElem? (i := 465) (by decide +kernel), List.mem_of_getElem? (i := 59) (by decide +kernel), ⟨by decide +kernel, by decide +kernel⟩, by decide +kernel, by decide +kernel, by decide⟩
abbrev mX4_closeList : jM := (yX4_closeList, cX4_closeList, 1, some .boolean)
theorem cal_X4_closeList : jcal mX4_closeList 0 := ⟨List.mem_of_getElem? (i := 470) (by decide +kernel), List.mem_of_getElem? (i := 66) (by decide +kernel), ⟨by decide +kernel, by decide +kernel⟩, by decide +kernel, by decide +kernel, by decide⟩
abbrev mX3_at : jM := (yX3_at, cX3_at, 2, some .int)
theorem cal_X3_at : jcal mX3_at 1 := ⟨List.mem_of_getElem? (i := 475) (by decide +kernel), List.mem_of_getElem? (i := 61) (by decide +kernel), ⟨by decide +kernel, by decide +kernel⟩, by decide +kernel, by decide +kernel, by decide⟩
abbrev mL_clear : jM := (yL_clear, cL_clear, 4, some .int)
abbrev hL_clear : List (Nat × Nat × Nat × Nat) := [(0, 16, 19, 13)]
abbrev mX6_clear : jM := (yX6_clear, cX6_clear, 3, some .boolean)
theorem cal_X6_clear : jcal mX6_clear 1 := ⟨List.mem_of_getElem? (i := 482) (by decide +kernel), List.mem_of_getElem? (i := 59) (by decide +kernel), ⟨by decide +kernel, by decide +kernel⟩, by decide +kernel, by decide +kernel, by decide⟩
abbrev mX4_isEmpty : jM := (yX4_isEmpty, cX4_isEmpty, 1, some .boolean)
theorem cal_X4_isEmpty : jcal mX4_isEmpty 0 := ⟨List.mem_of_getElem? (i := 486) (by decide +kernel), List.mem_of_getElem? (i := 66) (by decide +kernel), ⟨by decide +kernel, by decide +kernel⟩, by decide +kernel, by decide +kernel, by decide⟩
abbrev mX4_empty : jM := (yX4_empty, cX4_empty, 1, none)
theorem cal_X4_empty : jcal mX4_empty 0 := ⟨List.mem_of_getElem? (i := 490) (by decide +kernel), List.mem_of_getElem? (i := 66) (by decide +kernel), ⟨by decide +kernel, by decide +kernel⟩, by decide +kernel, by decide +kernel, by decide⟩
abbrev mL_read : jM := (yL_read, cL_read, 3, some .int)
abbrev hL_read : List (Nat × Nat × Nat × Nat) := [(0, 8, 11, 13), (0, 8, 14, 32)]
abbrev mX6_read : jM := (yX6_read, cX6_read, 2, some .int)
theorem cal_X6_read : jcal mX6_read 0 := ⟨List.mem_of_getElem? (i := 499) (by decide +kernel), List.mem_of_getElem? (i := 59) (by decide +kernel), ⟨by decide +kernel, by decide +kernel⟩, by decide +kernel, by decide +kernel, by decide⟩
abbrev mX5_takeApart : jM := (yX5_takeApart, cX5_takeApart, 3, some .int)
theorem cal_X5_takeApart : jcal mX5_takeApart 1 := ⟨List.mem_of_getElem? (i := 503) (by decide +kernel), List.mem_of_getElem? (i := 60) (by decide +kernel), ⟨by decide +kernel, by decide +kernel⟩, by decide +kernel, by decide +kernel, by decide⟩
abbrev mX2_empty : jM := (yX2_empty, cX2_empty, 1, none)
theorem cal_X2_empty : jcal mX2_empty 0 := ⟨List.mem_of_getElem? (i := 507) (by decide +kernel), List.mem_of_getElem? (i := 65) (by decide +kernel), ⟨by decide +kernel, by decide +kernel⟩, by decide +kernel, by decide +kernel, by decide⟩
abbrev mX5_takeMarks : jM := (yX5_takeMarks, cX5_takeMarks, 1, some .boolean)
theorem cal_X5_takeMarks : jcal mX5_takeMarks 0 := ⟨List.mem_of_getElem? (i := 512) (by decide +kernel), List.mem_of_getElem? (i := 60) (by decide +kernel), ⟨by decide +kernel, by decide +kernel⟩, by decide +kernel, by decide +kernel, by decide⟩
abbrev mX5_takeChoice : jM := (yX5_takeChoice, cX5_takeChoice, 2, some .boolean)
theorem cal_X5_takeChoice : jcal mX5_takeChoice 1 := ⟨List.mem_of_getElem? (i := 517) (by decide +kernel), List.mem_of_getElem? (i := 60) (by decide +kernel), ⟨by decide +kernel, by decide +kernel⟩, by decide +kernel, by decide +kernel, by decide⟩
abbrev mX5_canBeMark : jM := (yX5_canBeMark, cX5_canBeMark, 1, some .boolean)
theorem cal_X5_canBeMark : jcal mX5_canBeMark 1 := ⟨List.mem_of_getElem? (i := 520) (by decide +kernel), List.mem_of_getElem? (i := 60) (by decide +kernel), ⟨by decide +kernel, by decide +kernel⟩, by decide +kernel, by decide +kernel, by decide⟩
abbrev mX6_isDigit : jM := (yX6_isDigit, cX6_isDigit, 1, some .boolean)
theorem cal_X6_isDigit : jcal mX6_isDigit 1 := ⟨List.mem_of_getElem? (i := 523) (by decide +kernel), List.mem_of_getElem? (i := 59) (by decide +kernel), ⟨by decide +kernel, by decide +kernel⟩, by decide +kernel, by decide +kernel, by decide⟩
abbrev mX5_takeSegment : jM := (yX5_takeSegment, cX5_takeSegment, 5, some .boolean)
theorem cal_X5_takeSegment : jcal mX5_takeSegment 1 := ⟨List.mem_of_getElem? (i := 528) (by decide +kernel), List.mem_of_getElem? (i := 60) (by decide +kernel), ⟨by decide +kernel, by decide +kernel⟩, by decide +kernel, by decide +kernel, by decide⟩
abbrev mX2_addSegment : jM := (yX2_addSegment, cX2_addSegment, 2, none)
theorem cal_X2_addSegment : jcal mX2_addSegment 1 := ⟨List.mem_of_getElem? (i := 532) (by decide +kernel), List.mem_of_getElem? (i := 65) (by decide +kernel), ⟨by decide +kernel, by decide +kernel⟩, by decide +kernel, by decide +kernel, by decide⟩
abbrev mX2_isFull : jM := (yX2_isFull, cX2_isFull, 1, some .boolean)
theorem cal_X2_isFull : jcal mX2_isFull 0 := ⟨List.mem_of_getElem? (i := 538) (by decide +kernel), List.mem_of_getElem? (i := 65) (by decide +kernel), ⟨by decide +kernel, by decide +kernel⟩, by decide +kernel, by decide +kernel, by decide⟩
abbrev mX2_addElement : jM := (yX2_addElement, cX2_addElement, 1, none)
theorem cal_X2_addElement : jcal mX2_addElement 0 := ⟨List.mem_of_getElem? (i := 542) (by decide +kernel), List.mem_of_getElem? (i := 65) (by decide +kernel), ⟨by decide +kernel, by decide +kernel⟩, by decide +kernel, by decide +kernel, by decide⟩
abbrev mX5_takeElement : jM := (yX5_takeElement, cX5_takeElement, 3, none)
theorem cal_X5_takeElement : jcal mX5_takeElement 1 := ⟨List.mem_of_getElem? (i := 546) (by decide +kernel), List.mem_of_getElem? (i := 60) (by decide +kernel), ⟨by decide +kernel, by decide +kernel⟩, by decide +kernel, by decide +kernel, by decide⟩
abbrev mX2_addComponent : jM := (yX2_addComponent, cX2_addComponent, 1, none)
theorem cal_X2_addComponent : jcal mX2_addComponent 0 := ⟨List.mem_of_getElem? (i := 550) (by decide +kernel), List.mem_of_getElem? (i := 65) (by decide +kernel), ⟨by decide +kernel, by decide +kernel⟩, by decide +kernel, by decide +kernel, by decide⟩
abbrev mX5_takeComponent : jM := (yX5_takeComponent, cX5_takeComponent, 3, none)
theorem cal_X5_takeComponent : jcal mX5_takeComponent 1 := ⟨List.mem_of_getElem? (i := 554) (by decide +kernel), List.mem_of_getElem? (i := 60) (by decide +kernel), ⟨by decide +kernel, by decide +kernel⟩, by decide +kernel, by decide +kernel, by decide⟩
abbrev mX2_addCharacter : jM := (yX2_addCharacter, cX2_addCharacter, 2, none)
theorem cal_X2_addCharacter : jcal mX2_addCharacter 1 := ⟨List.mem_of_getElem? (i := 558) (by decide +kernel), List.mem_of_getElem? (i := 65) (by decide +kernel), ⟨by decide +kernel, by decide +kernel⟩, by decide +kernel, by decide +kernel, by decide⟩
abbrev mX2_finish : jM := (yX2_finish, cX2_finish, 1, none)
theorem cal_X2_finish : jcal mX2_finish 0 := ⟨List.mem_of_getElem? (i := 562) (by decide +kernel), List.mem_of_getElem? (i := 65) (by decide +kernel), ⟨by decide +kernel, by decide +kernel⟩, by decide +kernel, by decide +kernel, by decide⟩
abbrev mX0_fit : jM := (yX0_fit, cX0_fit, 4, some .boolean)
theorem cal_X0_fit : jcal mX0_fit 0 := ⟨List.mem_of_getElem? (i := 567) (by decide +kernel), List.mem_of_getElem? (i := 64) (by decide +kernel), ⟨by decide +kernel, by decide +kernel⟩, by decide +kernel, by decide +kernel, by decide⟩
abbrev mX0_empty : jM := (yX0_empty, cX0_empty, 1, none)
theorem cal_X0_empty : jcal mX0_empty 0 := ⟨List.mem_of_getElem? (i := 571) (by decide +kernel), List.mem_of_getElem? (i := 64) (by decide +kernel), ⟨by decide +kernel, by decide +kernel⟩, by decide +kernel, by decide +kernel, by decide⟩
abbrev mX2_segmentCount : jM := (yX2_segmentCount, cX2_segmentCount, 1, some .int)
theorem cal_X2_segmentCount : jcal mX2_segmentCount 0 := ⟨List.mem_of_getElem? (i := 576) (by decide +kernel), List.mem_of_getElem? (i := 65) (by decide +kernel), ⟨by decide +kernel, by decide +kernel⟩, by decide +kernel, by decide +kernel, by decide⟩
abbrev mX2_tagOf : jM := (yX2_tagOf, cX2_tagOf, 2, some .int)
theorem cal_X2_tagOf : jcal mX2_tagOf 1 := ⟨List.mem_of_getElem? (i := 580) (by decide +kernel), List.mem_of_getElem? (i := 65) (by decide +kernel), ⟨by decide +kernel, by decide +kernel⟩, by decide +kernel, by decide +kernel, by decide⟩
abbrev mX0_takeGroup : jM := (yX0_takeGroup, cX0_takeGroup, 4, some .boolean)
theorem cal_X0_takeGroup : jcal mX0_takeGroup 0 := ⟨List.mem_of_getElem? (i := 588) (by decide +kernel), List.mem_of_getElem? (i := 64) (by decide +kernel), ⟨by decide +kernel, by decide +kernel⟩, by decide +kernel, by decide +kernel, by decide⟩
abbrev mX0_takeMessage : jM := (yX0_takeMessage, cX0_takeMessage, 4, some .boolean)
theorem cal_X0_takeMessage : jcal mX0_takeMessage 1 := ⟨List.mem_of_getElem? (i := 594) (by decide +kernel), List.mem_of_getElem? (i := 64) (by decide +kernel), ⟨by decide +kernel, by decide +kernel⟩, by decide +kernel, by decide +kernel, by decide⟩
abbrev mX0_judgeEnds : jM := (yX0_judgeEnds, cX0_judgeEnds, 4, none)
theorem cal_X0_judgeEnds : jcal mX0_judgeEnds 0 := ⟨List.mem_of_getElem? (i := 618) (by decide +kernel), List.mem_of_getElem? (i := 64) (by decide +kernel), ⟨by decide +kernel, by decide +kernel⟩, by decide +kernel, by decide +kernel, by decide⟩
abbrev mX0_reference : jM := (yX0_reference, cX0_reference, 1, some .int)
theorem cal_X0_reference : jcal mX0_reference 0 := ⟨List.mem_of_getElem? (i := 622) (by decide +kernel), List.mem_of_getElem? (i := 64) (by decide +kernel), ⟨by decide +kernel, by decide +kernel⟩, by decide +kernel, by decide +kernel, by decide⟩
abbrev mX2_componentAt : jM := (yX2_componentAt, cX2_componentAt, 6, some .int)
theorem cal_X2_componentAt : jcal mX2_componentAt 3 := ⟨List.mem_of_getElem? (i := 626) (by decide +kernel), List.mem_of_getElem? (i := 65) (by decide +kernel), ⟨by decide +kernel, by decide +kernel⟩, by decide +kernel, by decide +kernel, by decide⟩
abbrev mX2_elementAt : jM := (yX2_elementAt, cX2_elementAt, 4, some .int)
theorem cal_X2_elementAt : jcal mX2_elementAt 2 := ⟨List.mem_of_getElem? (i := 630) (by decide +kernel), List.mem_of_getElem? (i := 65) (by decide +kernel), ⟨by decide +kernel, by decide +kernel⟩, by decide +kernel, by decide +kernel, by decide⟩
abbrev mX0_codeOfEnd : jM := (yX0_codeOfEnd, cX0_codeOfEnd, 4, some .int)
theorem cal_X0_codeOfEnd : jcal mX0_codeOfEnd 3 := ⟨List.mem_of_getElem? (i := 634) (by decide +kernel), List.mem_of_getElem? (i := 64) (by decide +kernel), ⟨by decide +kernel, by decide +kernel⟩, by decide +kernel, by decide +kernel, by decide⟩
abbrev mX0_isRightReference : jM := (yX0_isRightReference, cX0_isRightReference, 3, some .boolean)
theorem cal_X0_isRightReference : jcal mX0_isRightReference 2 := ⟨List.mem_of_getElem? (i := 638) (by decide +kernel), List.mem_of_getElem? (i := 64) (by decide +kernel), ⟨by decide +kernel, by decide +kernel⟩, by decide +kernel, by decide +kernel, by decide⟩
abbrev mX2_widthOf : jM := (yX2_widthOf, cX2_widthOf, 2, some .int)
theorem cal_X2_widthOf : jcal mX2_widthOf 1 := ⟨List.mem_of_getElem? (i := 642) (by decide +kernel), List.mem_of_getElem? (i := 65) (by decide +kernel), ⟨by decide +kernel, by decide +kernel⟩, by decide +kernel, by decide +kernel, by decide⟩
abbrev mX2_areSame : jM := (yX2_areSame, cX2_areSame, 7, some .boolean)
theorem cal_X2_areSame : jcal mX2_areSame 2 := ⟨List.mem_of_getElem? (i := 646) (by decide +kernel), List.mem_of_getElem? (i := 65) (by decide +kernel), ⟨by decide +kernel, by decide +kernel⟩, by decide +kernel, by decide +kernel, by decide⟩
abbrev mX0_isRightCount : jM := (yX0_isRightCount, cX0_isRightCount, 3, some .boolean)
theorem cal_X0_isRightCount : jcal mX0_isRightCount 2 := ⟨List.mem_of_getElem? (i := 651) (by decide +kernel), List.mem_of_getElem? (i := 64) (by decide +kernel), ⟨by decide +kernel, by decide +kernel⟩, by decide +kernel, by decide +kernel, by decide⟩
abbrev mX2_isNumber : jM := (yX2_isNumber, cX2_isNumber, 8, some .boolean)
theorem cal_X2_isNumber : jcal mX2_isNumber 2 := ⟨List.mem_of_getElem? (i := 655) (by decide +kernel), List.mem_of_getElem? (i := 65) (by decide +kernel), ⟨by decide +kernel, by decide +kernel⟩, by decide +kernel, by decide +kernel, by decide⟩
abbrev mX0_referenceOfGroup : jM := (yX0_referenceOfGroup, cX0_referenceOfGroup, 2, some .int)
theorem cal_X0_referenceOfGroup : jcal mX0_referenceOfGroup 1 := ⟨List.mem_of_getElem? (i := 660) (by decide +kernel), List.mem_of_getElem? (i := 64) (by decide +kernel), ⟨by decide +kernel, by decide +kernel⟩, by decide +kernel, by decide +kernel, by decide⟩
abbrev mX3_put : jM := (yX3_put, cX3_put, 3, none)
theorem cal_X3_put : jcal mX3_put 2 := ⟨List.mem_of_getElem? (i := 665) (by decide +kernel), List.mem_of_getElem? (i := 61) (by decide +kernel), ⟨by decide +kernel, by decide +kernel⟩, by decide +kernel, by decide +kernel, by decide⟩
abbrev mX0_messageCount : jM := (yX0_messageCount, cX0_messageCount, 1, some .int)
theorem cal_X0_messageCount : jcal mX0_messageCount 0 := ⟨List.mem_of_getElem? (i := 669) (by decide +kernel), List.mem_of_getElem? (i := 64) (by decide +kernel), ⟨by decide +kernel, by decide +kernel⟩, by decide +kernel, by decide +kernel, by decide⟩
abbrev mX0_typeOf : jM := (yX0_typeOf, cX0_typeOf, 4, some .int)
theorem cal_X0_typeOf : jcal mX0_typeOf 1 := ⟨List.mem_of_getElem? (i := 673) (by decide +kernel), List.mem_of_getElem? (i := 64) (by decide +kernel), ⟨by decide +kernel, by decide +kernel⟩, by decide +kernel, by decide +kernel, by decide⟩
abbrev mX2_characterOf : jM := (yX2_characterOf, cX2_characterOf, 3, some .int)
theorem cal_X2_characterOf : jcal mX2_characterOf 2 := ⟨List.mem_of_getElem? (i := 677) (by decide +kernel), List.mem_of_getElem? (i := 65) (by decide +kernel), ⟨by decide +kernel, by decide +kernel⟩, by decide +kernel, by decide +kernel, by decide⟩
abbrev mX0_judgeMessage : jM := (yX0_judgeMessage, cX0_judgeMessage, 5, none)
theorem cal_X0_judgeMessage : jcal mX0_judgeMessage 2 := ⟨List.mem_of_getElem? (i := 682) (by decide +kernel), List.mem_of_getElem? (i := 64) (by decide +kernel), ⟨by decide +kernel, by decide +kernel⟩, by decide +kernel, by decide +kernel, by decide⟩
abbrev mX0_referenceOfMessage : jM := (yX0_referenceOfMessage, cX0_referenceOfMessage, 2, some .int)
theorem cal_X0_referenceOfMessage : jcal mX0_referenceOfMessage 1 := ⟨List.mem_of_getElem? (i := 686) (by decide +kernel), List.mem_of_getElem? (i := 64) (by decide +kernel), ⟨by decide +kernel, by decide +kernel⟩, by decide +kernel, by decide +kernel, by decide⟩
abbrev mX0_note : jM := (yX0_note, cX0_note, 4, none)
theorem cal_X0_note : jcal mX0_note 3 := ⟨List.mem_of_getElem? (i := 690) (by decide +kernel), List.mem_of_getElem? (i := 64) (by decide +kernel), ⟨by decide +kernel, by decide +kernel⟩, by decide +kernel, by decide +kernel, by decide⟩
abbrev mX0_isRepeated : jM := (yX0_isRepeated, cX0_isRepeated, 3, some .boolean)
theorem cal_X0_isRepeated : jcal mX0_isRepeated 1 := ⟨List.mem_of_getElem? (i := 694) (by decide +kernel), List.mem_of_getElem? (i := 64) (by decide +kernel), ⟨by decide +kernel, by decide +kernel⟩, by decide +kernel, by decide +kernel, by decide⟩
abbrev mX0_matchMessage : jM := (yX0_matchMessage, cX0_matchMessage, 6, none)
theorem cal_X0_matchMessage : jcal mX0_matchMessage 2 := ⟨List.mem_of_getElem? (i := 699) (by decide +kernel), List.mem_of_getElem? (i := 64) (by decide +kernel), ⟨by decide +kernel, by decide +kernel⟩, by decide +kernel, by decide +kernel, by decide⟩
abbrev mX4_startMatch : jM := (yX4_startMatch, cX4_startMatch, 2, none)
theorem cal_X4_startMatch : jcal mX4_startMatch 0 := ⟨List.mem_of_getElem? (i := 703) (by decide +kernel), List.mem_of_getElem? (i := 66) (by decide +kernel), ⟨by decide +kernel, by decide +kernel⟩, by decide +kernel, by decide +kernel, by decide⟩
abbrev mX4_match : jM := (yX4_match, cX4_match, 3, some .int)
theorem cal_X4_match : jcal mX4_match 1 := ⟨List.mem_of_getElem? (i := 707) (by decide +kernel), List.mem_of_getElem? (i := 66) (by decide +kernel), ⟨by decide +kernel, by decide +kernel⟩, by decide +kernel, by decide +kernel, by decide⟩
abbrev mX4_standAtItem : jM := (yX4_standAtItem, cX4_standAtItem, 1, some .boolean)
theorem cal_X4_standAtItem : jcal mX4_standAtItem 0 := ⟨List.mem_of_getElem? (i := 711) (by decide +kernel), List.mem_of_getElem? (i := 66) (by decide +kernel), ⟨by decide +kernel, by decide +kernel⟩, by decide +kernel, by decide +kernel, by decide⟩
abbrev mX4_firstTag : jM := (yX4_firstTag, cX4_firstTag, 1, some .int)
theorem cal_X4_firstTag : jcal mX4_firstTag 0 := ⟨List.mem_of_getElem? (i := 715) (by decide +kernel), List.mem_of_getElem? (i := 66) (by decide +kernel), ⟨by decide +kernel, by decide +kernel⟩, by decide +kernel, by decide +kernel, by decide⟩
abbrev mX4_takeItem : jM := (yX4_takeItem, cX4_takeItem, 1, some .int)
theorem cal_X4_takeItem : jcal mX4_takeItem 0 := ⟨List.mem_of_getElem? (i := 719) (by decide +kernel), List.mem_of_getElem? (i := 66) (by decide +kernel), ⟨by decide +kernel, by decide +kernel⟩, by decide +kernel, by decide +kernel, by decide⟩
abbrev mX4_goOn : jM := (yX4_goOn, cX4_goOn, 3, none)
theorem cal_X4_goOn : jcal mX4_goOn 0 := ⟨List.mem_of_getElem? (i := 724) (by decide +kernel), List.mem_of_getElem? (i := 66) (by decide +kernel), ⟨by decide +kernel, by decide +kernel⟩, by decide +kernel, by decide +kernel, by decide⟩
abbrev mX4_isMissing : jM := (yX4_isMissing, cX4_isMissing, 1, some .boolean)
theorem cal_X4_isMissing : jcal mX4_isMissing 0 := ⟨List.mem_of_getElem? (i := 728) (by decide +kernel), List.mem_of_getElem? (i := 66) (by decide +kernel), ⟨by decide +kernel, by decide +kernel⟩, by decide +kernel, by decide +kernel, by decide⟩
abbrev mX4_endMatch : jM := (yX4_endMatch, cX4_endMatch, 2, some .int)
theorem cal_X4_endMatch : jcal mX4_endMatch 0 := ⟨List.mem_of_getElem? (i := 732) (by decide +kernel), List.mem_of_getElem? (i := 66) (by decide +kernel), ⟨by decide +kernel, by decide +kernel⟩, by decide +kernel, by decide +kernel, by decide⟩
abbrev mX1_writePrint : jM := (yX1_writePrint, cX1_writePrint, 5, none)
theorem cal_X1_writePrint : jcal mX1_writePrint 1 := ⟨List.mem_of_getElem? (i := 736) (by decide +kernel), List.mem_of_getElem? (i := 63) (by decide +kernel), ⟨by decide +kernel, by decide +kernel⟩, by decide +kernel, by decide +kernel, by decide⟩
abbrev mX1_putTag : jM := (yX1_putTag, cX1_putTag, 2, none)
theorem cal_X1_putTag : jcal mX1_putTag 1 := ⟨List.mem_of_getElem? (i := 743) (by decide +kernel), List.mem_of_getElem? (i := 63) (by decide +kernel), ⟨by decide +kernel, by decide +kernel⟩, by decide +kernel, by decide +kernel, by decide⟩
abbrev mX2_filledElementEnd : jM := (yX2_filledElementEnd, cX2_filledElementEnd, 4, some .int)
theorem cal_X2_filledElementEnd : jcal mX2_filledElementEnd 1 := ⟨List.mem_of_getElem? (i := 748) (by decide +kernel), List.mem_of_getElem? (i := 65) (by decide +kernel), ⟨by decide +kernel, by decide +kernel⟩, by decide +kernel, by decide +kernel, by decide⟩
abbrev mX2_filledEnd : jM := (yX2_filledEnd, cX2_filledEnd, 4, some .int)
theorem cal_X2_filledEnd : jcal mX2_filledEnd 1 := ⟨List.mem_of_getElem? (i := 752) (by decide +kernel), List.mem_of_getElem? (i := 65) (by decide +kernel), ⟨by decide +kernel, by decide +kernel⟩, by decide +kernel, by decide +kernel, by decide⟩
abbrev mX2_firstElement : jM := (yX2_firstElement, cX2_firstElement, 2, some .int)
theorem cal_X2_firstElement : jcal mX2_firstElement 1 := ⟨List.mem_of_getElem? (i := 756) (by decide +kernel), List.mem_of_getElem? (i := 65) (by decide +kernel), ⟨by decide +kernel, by decide +kernel⟩, by decide +kernel, by decide +kernel, by decide⟩
abbrev mX1_putElement : jM := (yX1_putElement, cX1_putElement, 6, none)
theorem cal_X1_putElement : jcal mX1_putElement 2 := ⟨List.mem_of_getElem? (i := 760) (by decide +kernel), List.mem_of_getElem? (i := 63) (by decide +kernel), ⟨by decide +kernel, by decide +kernel⟩, by decide +kernel, by decide +kernel, by decide⟩
abbrev mX2_firstComponent : jM := (yX2_firstComponent, cX2_firstComponent, 2, some .int)
theorem cal_X2_firstComponent : jcal mX2_firstComponent 1 := ⟨List.mem_of_getElem? (i := 764) (by decide +kernel), List.mem_of_getElem? (i := 65) (by decide +kernel), ⟨by decide +kernel, by decide +kernel⟩, by decide +kernel, by decide +kernel, by decide⟩
abbrev mX1_putComponent : jM := (yX1_putComponent, cX1_putComponent, 6, none)
theorem cal_X1_putComponent : jcal mX1_putComponent 2 := ⟨List.mem_of_getElem? (i := 769) (by decide +kernel), List.mem_of_getElem? (i := 63) (by decide +kernel), ⟨by decide +kernel, by decide +kernel⟩, by decide +kernel, by decide +kernel, by decide⟩
abbrev mX1_isPrintMark : jM := (yX1_isPrintMark, cX1_isPrintMark, 1, some .boolean)
theorem cal_X1_isPrintMark : jcal mX1_isPrintMark 1 := ⟨List.mem_of_getElem? (i := 774) (by decide +kernel), List.mem_of_getElem? (i := 63) (by decide +kernel), ⟨by decide +kernel, by decide +kernel⟩, by decide +kernel, by decide +kernel, by decide⟩
abbrev mX1_writeReport : jM := (yX1_writeReport, cX1_writeReport, 6, none)
theorem cal_X1_writeReport : jcal mX1_writeReport 1 := ⟨List.mem_of_getElem? (i := 778) (by decide +kernel), List.mem_of_getElem? (i := 63) (by decide +kernel), ⟨by decide +kernel, by decide +kernel⟩, by decide +kernel, by decide +kernel, by decide⟩
abbrev mX0_code : jM := (yX0_code, cX0_code, 1, some .int)
theorem cal_X0_code : jcal mX0_code 0 := ⟨List.mem_of_getElem? (i := 784) (by decide +kernel), List.mem_of_getElem? (i := 64) (by decide +kernel), ⟨by decide +kernel, by decide +kernel⟩, by decide +kernel, by decide +kernel, by decide⟩
abbrev mX1_putVerdict : jM := (yX1_putVerdict, cX1_putVerdict, 5, none)
theorem cal_X1_putVerdict : jcal mX1_putVerdict 4 := ⟨List.mem_of_getElem? (i := 788) (by decide +kernel), List.mem_of_getElem? (i := 63) (by decide +kernel), ⟨by decide +kernel, by decide +kernel⟩, by decide +kernel, by decide +kernel, by decide⟩
abbrev mX1_putNumber : jM := (yX1_putNumber, cX1_putNumber, 2, none)
theorem cal_X1_putNumber : jcal mX1_putNumber 1 := ⟨List.mem_of_getElem? (i := 792) (by decide +kernel), List.mem_of_getElem? (i := 63) (by decide +kernel), ⟨by decide +kernel, by decide +kernel⟩, by decide +kernel, by decide +kernel, by decide⟩
abbrev mX0_ofMessage : jM := (yX0_ofMessage, cX0_ofMessage, 3, some .int)
theorem cal_X0_ofMessage : jcal mX0_ofMessage 2 := ⟨List.mem_of_getElem? (i := 797) (by decide +kernel), List.mem_of_getElem? (i := 64) (by decide +kernel), ⟨by decide +kernel, by decide +kernel⟩, by decide +kernel, by decide +kernel, by decide⟩
abbrev mX0_codeOfGroup : jM := (yX0_codeOfGroup, cX0_codeOfGroup, 2, some .int)
theorem cal_X0_codeOfGroup : jcal mX0_codeOfGroup 1 := ⟨List.mem_of_getElem? (i := 803) (by decide +kernel), List.mem_of_getElem? (i := 64) (by decide +kernel), ⟨by decide +kernel, by decide +kernel⟩, by decide +kernel, by decide +kernel, by decide⟩
abbrev mL_interchange : jM := (yL_interchange, cL_interchange, 4, some .int)
abbrev hL_interchange : List (Nat × Nat × Nat × Nat) := [(0, 9, 12, 15)]
abbrev mX6_interchange : jM := (yX6_interchange, cX6_interchange, 2, some .int)
theorem cal_X6_interchange : jcal mX6_interchange 1 := ⟨List.mem_of_getElem? (i := 812) (by decide +kernel), List.mem_of_getElem? (i := 59) (by decide +kernel), ⟨by decide +kernel, by decide +kernel⟩, by decide +kernel, by decide +kernel, by decide⟩
abbrev mX6_needInterchange : jM := (yX6_needInterchange, cX6_needInterchange, 1, none)
theorem cal_X6_needInterchange : jcal mX6_needInterchange 0 := ⟨List.mem_of_getElem? (i := 816) (by decide +kernel), List.mem_of_getElem? (i := 59) (by decide +kernel), ⟨by decide +kernel, by decide +kernel⟩, by decide +kernel, by decide +kernel, by decide⟩
abbrev mX0_groupCount : jM := (yX0_groupCount, cX0_groupCount, 1, some .int)
theorem cal_X0_groupCount : jcal mX0_groupCount 0 := ⟨List.mem_of_getElem? (i := 822) (by decide +kernel), List.mem_of_getElem? (i := 64) (by decide +kernel), ⟨by decide +kernel, by decide +kernel⟩, by decide +kernel, by decide +kernel, by decide⟩
abbrev mL_message : jM := (yL_message, cL_message, 5, some .int)
abbrev hL_message : List (Nat × Nat × Nat × Nat) := [(0, 10, 13, 15)]
abbrev mX6_message : jM := (yX6_message, cX6_message, 3, some .int)
theorem cal_X6_message : jcal mX6_message 2 := ⟨List.mem_of_getElem? (i := 830) (by decide +kernel), List.mem_of_getElem? (i := 59) (by decide +kernel), ⟨by decide +kernel, by decide +kernel⟩, by decide +kernel, by decide +kernel, by decide⟩
abbrev mL_group : jM := (yL_group, cL_group, 4, some .int)
abbrev hL_group : List (Nat × Nat × Nat × Nat) := [(0, 9, 12, 15)]
abbrev mX6_group : jM := (yX6_group, cX6_group, 2, some .int)
theorem cal_X6_group : jcal mX6_group 1 := ⟨List.mem_of_getElem? (i := 838) (by decide +kernel), List.mem_of_getElem? (i := 59) (by decide +kernel), ⟨by decide +kernel, by decide +kernel⟩, by decide +kernel, by decide +kernel, by decide⟩
abbrev mL_segment : jM := (yL_segment, cL_segment, 7, some .int)
abbrev hL_segment : List (Nat × Nat × Nat × Nat) := [(0, 14, 17, 15)]
abbrev mX6_segment : jM := (yX6_segment, cX6_segment, 5, some .int)
theorem cal_X6_segment : jcal mX6_segment 4 := ⟨List.mem_of_getElem? (i := 846) (by decide +kernel), List.mem_of_getElem? (i := 59) (by decide +kernel), ⟨by decide +kernel, by decide +kernel⟩, by decide +kernel, by decide +kernel, by decide⟩
abbrev mX2_look : jM := (yX2_look, cX2_look, 7, some .int)
theorem cal_X2_look : jcal mX2_look 4 := ⟨List.mem_of_getElem? (i := 850) (by decide +kernel), List.mem_of_getElem? (i := 65) (by decide +kernel), ⟨by decide +kernel, by decide +kernel⟩, by decide +kernel, by decide +kernel, by decide⟩
abbrev mL_print : jM := (yL_print, cL_print, 4, some .int)
abbrev hL_print : List (Nat × Nat × Nat × Nat) := [(0, 9, 12, 15)]
abbrev mX6_print : jM := (yX6_print, cX6_print, 2, some .int)
theorem cal_X6_print : jcal mX6_print 1 := ⟨List.mem_of_getElem? (i := 859) (by decide +kernel), List.mem_of_getElem? (i := 59) (by decide +kernel), ⟨by decide +kernel, by decide +kernel⟩, by decide +kernel, by decide +kernel, by decide⟩
abbrev mX1_look : jM := (yX1_look, cX1_look, 2, some .int)
theorem cal_X1_look : jcal mX1_look 1 := ⟨List.mem_of_getElem? (i := 863) (by decide +kernel), List.mem_of_getElem? (i := 63) (by decide +kernel), ⟨by decide +kernel, by decide +kernel⟩, by decide +kernel, by decide +kernel, by decide⟩
abbrev mL_report : jM := (yL_report, cL_report, 4, some .int)
abbrev hL_report : List (Nat × Nat × Nat × Nat) := [(0, 9, 12, 15)]
abbrev mX6_report : jM := (yX6_report, cX6_report, 2, some .int)
theorem cal_X6_report : jcal mX6_report 1 := ⟨List.mem_of_getElem? (i := 872) (by decide +kernel), List.mem_of_getElem? (i := 59) (by decide +kernel), ⟨by decide +kernel, by decide +kernel⟩, by decide +kernel, by decide +kernel, by decide⟩
abbrev mX7_init : jM := (yX7_init, cX7_init, 2, none)
theorem cal_X7_init : jcal mX7_init 0 := ⟨List.mem_of_getElem? (i := 877) (by decide +kernel), List.mem_of_getElem? (i := 67) (by decide +kernel), ⟨by decide +kernel, by decide +kernel⟩, by decide +kernel, by decide +kernel, by decide⟩
abbrev mX7_thrown : jM := (yX7_thrown, cX7_thrown, 1, some .int)
theorem cal_X7_thrown : jcal mX7_thrown 0 := ⟨List.mem_of_getElem? (i := 1043) (by decide +kernel), List.mem_of_getElem? (i := 67) (by decide +kernel), ⟨by decide +kernel, by decide +kernel⟩, by decide +kernel, by decide +kernel, by decide⟩
abbrev mX7_type : jM := (yX7_type, cX7_type, 6, some .boolean)
theorem cal_X7_type : jcal mX7_type 1 := ⟨List.mem_of_getElem? (i := 1047) (by decide +kernel), List.mem_of_getElem? (i := 67) (by decide +kernel), ⟨by decide +kernel, by decide +kernel⟩, by decide +kernel, by decide +kernel, by decide⟩
abbrev mX7_wipe : jM := (yX7_wipe, cX7_wipe, 1, none)
theorem cal_X7_wipe : jcal mX7_wipe 0 := ⟨List.mem_of_getElem? (i := 1051) (by decide +kernel), List.mem_of_getElem? (i := 67) (by decide +kernel), ⟨by decide +kernel, by decide +kernel⟩, by decide +kernel, by decide +kernel, by decide⟩
abbrev mX7_length : jM := (yX7_length, cX7_length, 1, some .int)
theorem cal_X7_length : jcal mX7_length 0 := ⟨List.mem_of_getElem? (i := 1055) (by decide +kernel), List.mem_of_getElem? (i := 67) (by decide +kernel), ⟨by decide +kernel, by decide +kernel⟩, by decide +kernel, by decide +kernel, by decide⟩
abbrev mX7_slot : jM := (yX7_slot, cX7_slot, 5, some .int)
theorem cal_X7_slot : jcal mX7_slot 4 := ⟨List.mem_of_getElem? (i := 1059) (by decide +kernel), List.mem_of_getElem? (i := 67) (by decide +kernel), ⟨by decide +kernel, by decide +kernel⟩, by decide +kernel, by decide +kernel, by decide⟩
abbrev mX7_isType : jM := (yX7_isType, cX7_isType, 1, some .boolean)
theorem cal_X7_isType : jcal mX7_isType 1 := ⟨List.mem_of_getElem? (i := 1062) (by decide +kernel), List.mem_of_getElem? (i := 67) (by decide +kernel), ⟨by decide +kernel, by decide +kernel⟩, by decide +kernel, by decide +kernel, by decide⟩
abbrev mX7_isTag : jM := (yX7_isTag, cX7_isTag, 1, some .boolean)
theorem cal_X7_isTag : jcal mX7_isTag 1 := ⟨List.mem_of_getElem? (i := 1065) (by decide +kernel), List.mem_of_getElem? (i := 67) (by decide +kernel), ⟨by decide +kernel, by decide +kernel⟩, by decide +kernel, by decide +kernel, by decide⟩
abbrev mX7_isLetter : jM := (yX7_isLetter, cX7_isLetter, 1, some .boolean)
theorem cal_X7_isLetter : jcal mX7_isLetter 1 := ⟨List.mem_of_getElem? (i := 1068) (by decide +kernel), List.mem_of_getElem? (i := 67) (by decide +kernel), ⟨by decide +kernel, by decide +kernel⟩, by decide +kernel, by decide +kernel, by decide⟩
abbrev mX7_isEnvelope : jM := (yX7_isEnvelope, cX7_isEnvelope, 1, some .boolean)
theorem cal_X7_isEnvelope : jcal mX7_isEnvelope 1 := ⟨List.mem_of_getElem? (i := 1071) (by decide +kernel), List.mem_of_getElem? (i := 67) (by decide +kernel), ⟨by decide +kernel, by decide +kernel⟩, by decide +kernel, by decide +kernel, by decide⟩
abbrev mX7_isBare : jM := (yX7_isBare, cX7_isBare, 2, some .boolean)
theorem cal_X7_isBare : jcal mX7_isBare 1 := ⟨List.mem_of_getElem? (i := 1081) (by decide +kernel), List.mem_of_getElem? (i := 67) (by decide +kernel), ⟨by decide +kernel, by decide +kernel⟩, by decide +kernel, by decide +kernel, by decide⟩
abbrev mX7_following : jM := (yX7_following, cX7_following, 5, some .int)
theorem cal_X7_following : jcal mX7_following 3 := ⟨List.mem_of_getElem? (i := 1085) (by decide +kernel), List.mem_of_getElem? (i := 67) (by decide +kernel), ⟨by decide +kernel, by decide +kernel⟩, by decide +kernel, by decide +kernel, by decide⟩
abbrev mX7_add : jM := (yX7_add, cX7_add, 6, some .int)
theorem cal_X7_add : jcal mX7_add 4 := ⟨List.mem_of_getElem? (i := 1089) (by decide +kernel), List.mem_of_getElem? (i := 67) (by decide +kernel), ⟨by decide +kernel, by decide +kernel⟩, by decide +kernel, by decide +kernel, by decide⟩
abbrev mX7_open : jM := (yX7_open, cX7_open, 5, some .int)
theorem cal_X7_open : jcal mX7_open 3 := ⟨List.mem_of_getElem? (i := 1093) (by decide +kernel), List.mem_of_getElem? (i := 67) (by decide +kernel), ⟨by decide +kernel, by decide +kernel⟩, by decide +kernel, by decide +kernel, by decide⟩
abbrev mX7_openGroups : jM := (yX7_openGroups, cX7_openGroups, 4, some .int)
theorem cal_X7_openGroups : jcal mX7_openGroups 1 := ⟨List.mem_of_getElem? (i := 1097) (by decide +kernel), List.mem_of_getElem? (i := 67) (by decide +kernel), ⟨by decide +kernel, by decide +kernel⟩, by decide +kernel, by decide +kernel, by decide⟩
abbrev mX7_close : jM := (yX7_close, cX7_close, 2, some .boolean)
theorem cal_X7_close : jcal mX7_close 1 := ⟨List.mem_of_getElem? (i := 1101) (by decide +kernel), List.mem_of_getElem? (i := 67) (by decide +kernel), ⟨by decide +kernel, by decide +kernel⟩, by decide +kernel, by decide +kernel, by decide⟩
abbrev mX7_clear : jM := (yX7_clear, cX7_clear, 2, some .boolean)
theorem cal_X7_clear : jcal mX7_clear 1 := ⟨List.mem_of_getElem? (i := 1105) (by decide +kernel), List.mem_of_getElem? (i := 67) (by decide +kernel), ⟨by decide +kernel, by decide +kernel⟩, by decide +kernel, by decide +kernel, by decide⟩
abbrev mX7_read : jM := (yX7_read, cX7_read, 4, some .int)
theorem cal_X7_read : jcal mX7_read 0 := ⟨List.mem_of_getElem? (i := 1109) (by decide +kernel), List.mem_of_getElem? (i := 67) (by decide +kernel), ⟨by decide +kernel, by decide +kernel⟩, by decide +kernel, by decide +kernel, by decide⟩
abbrev mX7_scans : jM := (yX7_scans, cX7_scans, 3, some .boolean)
theorem cal_X7_scans : jcal mX7_scans 0 := ⟨List.mem_of_getElem? (i := 1113) (by decide +kernel), List.mem_of_getElem? (i := 67) (by decide +kernel), ⟨by decide +kernel, by decide +kernel⟩, by decide +kernel, by decide +kernel, by decide⟩
abbrev mX7_marks : jM := (yX7_marks, cX7_marks, 4, some .int)
theorem cal_X7_marks : jcal mX7_marks 0 := ⟨List.mem_of_getElem? (i := 1117) (by decide +kernel), List.mem_of_getElem? (i := 67) (by decide +kernel), ⟨by decide +kernel, by decide +kernel⟩, by decide +kernel, by decide +kernel, by decide⟩
abbrev mX7_canMark : jM := (yX7_canMark, cX7_canMark, 1, some .boolean)
theorem cal_X7_canMark : jcal mX7_canMark 1 := ⟨List.mem_of_getElem? (i := 1120) (by decide +kernel), List.mem_of_getElem? (i := 67) (by decide +kernel), ⟨by decide +kernel, by decide +kernel⟩, by decide +kernel, by decide +kernel, by decide⟩
abbrev mX7_next : jM := (yX7_next, cX7_next, 3, some .int)
theorem cal_X7_next : jcal mX7_next 2 := ⟨List.mem_of_getElem? (i := 1124) (by decide +kernel), List.mem_of_getElem? (i := 67) (by decide +kernel), ⟨by decide +kernel, by decide +kernel⟩, by decide +kernel, by decide +kernel, by decide⟩
abbrev mX7_put : jM := (yX7_put, cX7_put, 2, none)
theorem cal_X7_put : jcal mX7_put 1 := ⟨List.mem_of_getElem? (i := 1128) (by decide +kernel), List.mem_of_getElem? (i := 67) (by decide +kernel), ⟨by decide +kernel, by decide +kernel⟩, by decide +kernel, by decide +kernel, by decide⟩
abbrev mX7_beginElement : jM := (yX7_beginElement, cX7_beginElement, 1, none)
theorem cal_X7_beginElement : jcal mX7_beginElement 0 := ⟨List.mem_of_getElem? (i := 1132) (by decide +kernel), List.mem_of_getElem? (i := 67) (by decide +kernel), ⟨by decide +kernel, by decide +kernel⟩, by decide +kernel, by decide +kernel, by decide⟩
abbrev mX7_beginComponent : jM := (yX7_beginComponent, cX7_beginComponent, 1, none)
theorem cal_X7_beginComponent : jcal mX7_beginComponent 0 := ⟨List.mem_of_getElem? (i := 1136) (by decide +kernel), List.mem_of_getElem? (i := 67) (by decide +kernel), ⟨by decide +kernel, by decide +kernel⟩, by decide +kernel, by decide +kernel, by decide⟩
abbrev mX7_wraps : jM := (yX7_wraps, cX7_wraps, 5, some .boolean)
theorem cal_X7_wraps : jcal mX7_wraps 0 := ⟨List.mem_of_getElem? (i := 1140) (by decide +kernel), List.mem_of_getElem? (i := 67) (by decide +kernel), ⟨by decide +kernel, by decide +kernel⟩, by decide +kernel, by decide +kernel, by decide⟩
abbrev mX7_take : jM := (yX7_take, cX7_take, 2, none)
theorem cal_X7_take : jcal mX7_take 0 := ⟨List.mem_of_getElem? (i := 1144) (by decide +kernel), List.mem_of_getElem? (i := 67) (by decide +kernel), ⟨by decide +kernel, by decide +kernel⟩, by decide +kernel, by decide +kernel, by decide⟩
abbrev mX7_judge : jM := (yX7_judge, cX7_judge, 7, none)
theorem cal_X7_judge : jcal mX7_judge 1 := ⟨List.mem_of_getElem? (i := 1148) (by decide +kernel), List.mem_of_getElem? (i := 67) (by decide +kernel), ⟨by decide +kernel, by decide +kernel⟩, by decide +kernel, by decide +kernel, by decide⟩
abbrev mX7_check : jM := (yX7_check, cX7_check, 7, some .int)
theorem cal_X7_check : jcal mX7_check 4 := ⟨List.mem_of_getElem? (i := 1152) (by decide +kernel), List.mem_of_getElem? (i := 67) (by decide +kernel), ⟨by decide +kernel, by decide +kernel⟩, by decide +kernel, by decide +kernel, by decide⟩
abbrev mX7_component : jM := (yX7_component, cX7_component, 4, some .int)
theorem cal_X7_component : jcal mX7_component 2 := ⟨List.mem_of_getElem? (i := 1156) (by decide +kernel), List.mem_of_getElem? (i := 67) (by decide +kernel), ⟨by decide +kernel, by decide +kernel⟩, by decide +kernel, by decide +kernel, by decide⟩
abbrev mX7_sizeOf : jM := (yX7_sizeOf, cX7_sizeOf, 2, some .int)
theorem cal_X7_sizeOf : jcal mX7_sizeOf 1 := ⟨List.mem_of_getElem? (i := 1160) (by decide +kernel), List.mem_of_getElem? (i := 67) (by decide +kernel), ⟨by decide +kernel, by decide +kernel⟩, by decide +kernel, by decide +kernel, by decide⟩
abbrev mX7_same : jM := (yX7_same, cX7_same, 6, some .boolean)
theorem cal_X7_same : jcal mX7_same 2 := ⟨List.mem_of_getElem? (i := 1164) (by decide +kernel), List.mem_of_getElem? (i := 67) (by decide +kernel), ⟨by decide +kernel, by decide +kernel⟩, by decide +kernel, by decide +kernel, by decide⟩
abbrev mX7_isNumber : jM := (yX7_isNumber, cX7_isNumber, 9, some .boolean)
theorem cal_X7_isNumber : jcal mX7_isNumber 2 := ⟨List.mem_of_getElem? (i := 1168) (by decide +kernel), List.mem_of_getElem? (i := 67) (by decide +kernel), ⟨by decide +kernel, by decide +kernel⟩, by decide +kernel, by decide +kernel, by decide⟩
abbrev mX7_typeOf : jM := (yX7_typeOf, cX7_typeOf, 4, some .int)
theorem cal_X7_typeOf : jcal mX7_typeOf 1 := ⟨List.mem_of_getElem? (i := 1172) (by decide +kernel), List.mem_of_getElem? (i := 67) (by decide +kernel), ⟨by decide +kernel, by decide +kernel⟩, by decide +kernel, by decide +kernel, by decide⟩
abbrev mX7_comes : jM := (yX7_comes, cX7_comes, 5, some .int)
theorem cal_X7_comes : jcal mX7_comes 2 := ⟨List.mem_of_getElem? (i := 1176) (by decide +kernel), List.mem_of_getElem? (i := 67) (by decide +kernel), ⟨by decide +kernel, by decide +kernel⟩, by decide +kernel, by decide +kernel, by decide⟩
abbrev mX7_begins : jM := (yX7_begins, cX7_begins, 5, some .int)
theorem cal_X7_begins : jcal mX7_begins 2 := ⟨List.mem_of_getElem? (i := 1180) (by decide +kernel), List.mem_of_getElem? (i := 67) (by decide +kernel), ⟨by decide +kernel, by decide +kernel⟩, by decide +kernel, by decide +kernel, by decide⟩
abbrev mX7_goOn : jM := (yX7_goOn, cX7_goOn, 3, none)
theorem cal_X7_goOn : jcal mX7_goOn 1 := ⟨List.mem_of_getElem? (i := 1184) (by decide +kernel), List.mem_of_getElem? (i := 67) (by decide +kernel), ⟨by decide +kernel, by decide +kernel⟩, by decide +kernel, by decide +kernel, by decide⟩
abbrev mX7_lacks : jM := (yX7_lacks, cX7_lacks, 4, some .boolean)
theorem cal_X7_lacks : jcal mX7_lacks 1 := ⟨List.mem_of_getElem? (i := 1188) (by decide +kernel), List.mem_of_getElem? (i := 67) (by decide +kernel), ⟨by decide +kernel, by decide +kernel⟩, by decide +kernel, by decide +kernel, by decide⟩
abbrev mX7_writePrint : jM := (yX7_writePrint, cX7_writePrint, 6, none)
theorem cal_X7_writePrint : jcal mX7_writePrint 0 := ⟨List.mem_of_getElem? (i := 1192) (by decide +kernel), List.mem_of_getElem? (i := 67) (by decide +kernel), ⟨by decide +kernel, by decide +kernel⟩, by decide +kernel, by decide +kernel, by decide⟩
abbrev mX7_writeTag : jM := (yX7_writeTag, cX7_writeTag, 2, none)
theorem cal_X7_writeTag : jcal mX7_writeTag 1 := ⟨List.mem_of_getElem? (i := 1196) (by decide +kernel), List.mem_of_getElem? (i := 67) (by decide +kernel), ⟨by decide +kernel, by decide +kernel⟩, by decide +kernel, by decide +kernel, by decide⟩
abbrev mX7_write : jM := (yX7_write, cX7_write, 2, none)
theorem cal_X7_write : jcal mX7_write 1 := ⟨List.mem_of_getElem? (i := 1200) (by decide +kernel), List.mem_of_getElem? (i := 67) (by decide +kernel), ⟨by decide +kernel, by decide +kernel⟩, by decide +kernel, by decide +kernel, by decide⟩
abbrev mX7_kept : jM := (yX7_kept, cX7_kept, 3, some .int)
theorem cal_X7_kept : jcal mX7_kept 1 := ⟨List.mem_of_getElem? (i := 1204) (by decide +kernel), List.mem_of_getElem? (i := 67) (by decide +kernel), ⟨by decide +kernel, by decide +kernel⟩, by decide +kernel, by decide +kernel, by decide⟩
abbrev mX7_writeComponent : jM := (yX7_writeComponent, cX7_writeComponent, 5, none)
theorem cal_X7_writeComponent : jcal mX7_writeComponent 1 := ⟨List.mem_of_getElem? (i := 1208) (by decide +kernel), List.mem_of_getElem? (i := 67) (by decide +kernel), ⟨by decide +kernel, by decide +kernel⟩, by decide +kernel, by decide +kernel, by decide⟩
abbrev mX7_writeReport : jM := (yX7_writeReport, cX7_writeReport, 3, none)
theorem cal_X7_writeReport : jcal mX7_writeReport 0 := ⟨List.mem_of_getElem? (i := 1212) (by decide +kernel), List.mem_of_getElem? (i := 67) (by decide +kernel), ⟨by decide +kernel, by decide +kernel⟩, by decide +kernel, by decide +kernel, by decide⟩
abbrev mX7_writeLine : jM := (yX7_writeLine, cX7_writeLine, 5, none)
theorem cal_X7_writeLine : jcal mX7_writeLine 4 := ⟨List.mem_of_getElem? (i := 1217) (by decide +kernel), List.mem_of_getElem? (i := 67) (by decide +kernel), ⟨by decide +kernel, by decide +kernel⟩, by decide +kernel, by decide +kernel, by decide⟩
abbrev mX7_writeNumber : jM := (yX7_writeNumber, cX7_writeNumber, 3, none)
theorem cal_X7_writeNumber : jcal mX7_writeNumber 1 := ⟨List.mem_of_getElem? (i := 1221) (by decide +kernel), List.mem_of_getElem? (i := 67) (by decide +kernel), ⟨by decide +kernel, by decide +kernel⟩, by decide +kernel, by decide +kernel, by decide⟩
abbrev mX7_fault : jM := (yX7_fault, cX7_fault, 1, some .int)
theorem cal_X7_fault : jcal mX7_fault 0 := ⟨List.mem_of_getElem? (i := 1227) (by decide +kernel), List.mem_of_getElem? (i := 67) (by decide +kernel), ⟨by decide +kernel, by decide +kernel⟩, by decide +kernel, by decide +kernel, by decide⟩
abbrev mX7_interchange : jM := (yX7_interchange, cX7_interchange, 2, some .int)
theorem cal_X7_interchange : jcal mX7_interchange 1 := ⟨List.mem_of_getElem? (i := 1231) (by decide +kernel), List.mem_of_getElem? (i := 67) (by decide +kernel), ⟨by decide +kernel, by decide +kernel⟩, by decide +kernel, by decide +kernel, by decide⟩
abbrev mX7_message : jM := (yX7_message, cX7_message, 3, some .int)
theorem cal_X7_message : jcal mX7_message 2 := ⟨List.mem_of_getElem? (i := 1235) (by decide +kernel), List.mem_of_getElem? (i := 67) (by decide +kernel), ⟨by decide +kernel, by decide +kernel⟩, by decide +kernel, by decide +kernel, by decide⟩
abbrev mX7_group : jM := (yX7_group, cX7_group, 2, some .int)
theorem cal_X7_group : jcal mX7_group 1 := ⟨List.mem_of_getElem? (i := 1239) (by decide +kernel), List.mem_of_getElem? (i := 67) (by decide +kernel), ⟨by decide +kernel, by decide +kernel⟩, by decide +kernel, by decide +kernel, by decide⟩
abbrev mX7_segment : jM := (yX7_segment, cX7_segment, 9, some .int)
theorem cal_X7_segment : jcal mX7_segment 4 := ⟨List.mem_of_getElem? (i := 1243) (by decide +kernel), List.mem_of_getElem? (i := 67) (by decide +kernel), ⟨by decide +kernel, by decide +kernel⟩, by decide +kernel, by decide +kernel, by decide⟩
abbrev mX7_print : jM := (yX7_print, cX7_print, 2, some .int)
theorem cal_X7_print : jcal mX7_print 1 := ⟨List.mem_of_getElem? (i := 1247) (by decide +kernel), List.mem_of_getElem? (i := 67) (by decide +kernel), ⟨by decide +kernel, by decide +kernel⟩, by decide +kernel, by decide +kernel, by decide⟩
abbrev mX7_report : jM := (yX7_report, cX7_report, 2, some .int)
theorem cal_X7_report : jcal mX7_report 1 := ⟨List.mem_of_getElem? (i := 1251) (by decide +kernel), List.mem_of_getElem? (i := 67) (by decide +kernel), ⟨by decide +kernel, by decide +kernel⟩, by decide +kernel, by decide +kernel, by decide⟩
/-! fields -/
theorem f_X3_21 : jfl RX3 21 3 0 (.array .int) true := ⟨_, rfl, by decide, List.mem_of_getElem? (i := 97) (by decide +kernel), by decide +kernel, rfl⟩
theorem f_X3_9 : jfl RX3 9 3 1 .int false := ⟨_, rfl, by decide, List.mem_of_getElem? (i := 98) (by decide +kernel), by decide +kernel, rfl⟩
theorem f_X5_14 : jfl RX5 14 5 0 (.object "InterchangeDesk$Row") true := ⟨_, rfl, by decide, List.mem_of_getElem? (i := 105) (by decide +kernel), by decide +kernel, rfl⟩
theorem f_X5_20 : jfl RX5 20 5 1 .int false := ⟨_, rfl, by decide, List.mem_of_getElem? (i := 106) (by decide +kernel), by decide +kernel, rfl⟩
theorem f_X5_24 : jfl RX5 24 5 2 .int false := ⟨_, rfl, by decide, List.mem_of_getElem? (i := 107) (by decide +kernel), by decide +kernel, rfl⟩
theorem f_X5_27 : jfl RX5 27 5 3 .int false := ⟨_, rfl, by decide, List.mem_of_getElem? (i := 108) (by decide +kernel), by decide +kernel, rfl⟩
theorem f_X5_30 : jfl RX5 30 5 4 .int false := ⟨_, rfl, by decide, List.mem_of_getElem? (i := 109) (by decide +kernel), by decide +kernel, rfl⟩
theorem f_X5_33 : jfl RX5 33 5 5 .int false := ⟨_, rfl, by decide, List.mem_of_getElem? (i := 110) (by decide +kernel), by decide +kernel, rfl⟩
theorem f_X1_14 : jfl RX1 14 1 0 (.object "InterchangeDesk$Row") true := ⟨_, rfl, by decide, List.mem_of_getElem? (i := 134) (by decide +kernel), by decide +kernel, rfl⟩
theorem f_X2_14 : jfl RX2 14 2 0 (.object "InterchangeDesk$Row") true := ⟨_, rfl, by decide, List.mem_of_getElem? (i := 152) (by decide +kernel), by decide +kernel, rfl⟩
theorem f_X2_20 : jfl RX2 20 2 1 (.object "InterchangeDesk$Row") true := ⟨_, rfl, by decide, List.mem_of_getElem? (i := 153) (by decide +kernel), by decide +kernel, rfl⟩
theorem f_X2_23 : jfl RX2 23 2 2 (.object "InterchangeDesk$Row") true := ⟨_, rfl, by decide, List.mem_of_getElem? (i := 154) (by decide +kernel), by decide +kernel, rfl⟩
theorem f_X2_26 : jfl RX2 26 2 3 (.object "InterchangeDesk$Row") true := ⟨_, rfl, by decide, List.mem_of_getElem? (i := 155) (by decide +kernel), by decide +kernel, rfl⟩
theorem f_X2_29 : jfl RX2 29 2 4 (.object "InterchangeDesk$Row") true := ⟨_, rfl, by decide, List.mem_of_getElem? (i := 156) (by decide +kernel), by decide +kernel, rfl⟩
theorem f_X0_12 : jfl RX0 12 0 0 (.object "InterchangeDesk$Parts") true := ⟨_, rfl, by decide, List.mem_of_getElem? (i := 170) (by decide +kernel), by decide +kernel, rfl⟩
theorem f_X1_55 : jfl RX1 55 0 0 (.object "InterchangeDesk$Parts") true := ⟨_, rfl, by decide, List.mem_of_getElem? (i := 171) (by decide +kernel), by decide +kernel, rfl⟩
theorem f_X6_124 : jfl RX6 124 0 0 (.object "InterchangeDesk$Parts") true := ⟨_, rfl, by decide, List.mem_of_getElem? (i := 172) (by decide +kernel), by decide +kernel, rfl⟩
theorem f_X0_23 : jfl RX0 23 0 1 (.object "InterchangeDesk$Row") true := ⟨_, rfl, by decide, List.mem_of_getElem? (i := 173) (by decide +kernel), by decide +kernel, rfl⟩
theorem f_X0_27 : jfl RX0 27 0 2 (.object "InterchangeDesk$Row") true := ⟨_, rfl, by decide, List.mem_of_getElem? (i := 174) (by decide +kernel), by decide +kernel, rfl⟩
theorem f_X0_30 : jfl RX0 30 0 3 (.object "InterchangeDesk$Row") true := ⟨_, rfl, by decide, List.mem_of_getElem? (i := 175) (by decide +kernel), by decide +kernel, rfl⟩
theorem f_X0_33 : jfl RX0 33 0 4 (.object "InterchangeDesk$Row") true := ⟨_, rfl, by decide, List.mem_of_getElem? (i := 176) (by decide +kernel), by decide +kernel, rfl⟩
theorem f_X0_36 : jfl RX0 36 0 5 (.object "InterchangeDesk$Row") true := ⟨_, rfl, by decide, List.mem_of_getElem? (i := 177) (by decide +kernel), by decide +kernel, rfl⟩
theorem f_X0_39 : jfl RX0 39 0 6 (.object "InterchangeDesk$Row") true := ⟨_, rfl, by decide, List.mem_of_getElem? (i := 178) (by decide +kernel), by decide +kernel, rfl⟩
theorem f_X0_42 : jfl RX0 42 0 7 (.object "InterchangeDesk$Row") true := ⟨_, rfl, by decide, List.mem_of_getElem? (i := 179) (by decide +kernel), by decide +kernel, rfl⟩
theorem f_X0_45 : jfl RX0 45 0 8 (.object "InterchangeDesk$Row") true := ⟨_, rfl, by decide, List.mem_of_getElem? (i := 180) (by decide +kernel), by decide +kernel, rfl⟩
theorem f_X0_48 : jfl RX0 48 0 9 (.object "InterchangeDesk$Row") true := ⟨_, rfl, by decide, List.mem_of_getElem? (i := 181) (by decide +kernel), by decide +kernel, rfl⟩
theorem f_X0_51 : jfl RX0 51 0 10 .int false := ⟨_, rfl, by decide, List.mem_of_getElem? (i := 182) (by decide +kernel), by decide +kernel, rfl⟩
theorem f_X0_55 : jfl RX0 55 0 11 .int false := ⟨_, rfl, by decide, List.mem_of_getElem? (i := 183) (by decide +kernel), by decide +kernel, rfl⟩
theorem f_X4_14 : jfl RX4 14 4 0 (.object "InterchangeDesk$Row") true := ⟨_, rfl, by decide, List.mem_of_getElem? (i := 216) (by decide +kernel), by decide +kernel, rfl⟩
theorem f_X4_20 : jfl RX4 20 4 1 (.object "InterchangeDesk$Row") true := ⟨_, rfl, by decide, List.mem_of_getElem? (i := 217) (by decide +kernel), by decide +kernel, rfl⟩
theorem f_X4_23 : jfl RX4 23 4 2 (.object "InterchangeDesk$Row") true := ⟨_, rfl, by decide, List.mem_of_getElem? (i := 218) (by decide +kernel), by decide +kernel, rfl⟩
theorem f_X4_26 : jfl RX4 26 4 3 (.object "InterchangeDesk$Row") true := ⟨_, rfl, by decide, List.mem_of_getElem? (i := 219) (by decide +kernel), by decide +kernel, rfl⟩
theorem f_X4_29 : jfl RX4 29 4 4 .int false := ⟨_, rfl, by decide, List.mem_of_getElem? (i := 220) (by decide +kernel), by decide +kernel, rfl⟩
theorem f_X4_33 : jfl RX4 33 4 5 .int false := ⟨_, rfl, by decide, List.mem_of_getElem? (i := 221) (by decide +kernel), by decide +kernel, rfl⟩
theorem f_X4_36 : jfl RX4 36 4 6 (.object "InterchangeDesk$Row") true := ⟨_, rfl, by decide, List.mem_of_getElem? (i := 222) (by decide +kernel), by decide +kernel, rfl⟩
theorem f_X4_39 : jfl RX4 39 4 7 .int false := ⟨_, rfl, by decide, List.mem_of_getElem? (i := 223) (by decide +kernel), by decide +kernel, rfl⟩
theorem f_X4_42 : jfl RX4 42 4 8 .int false := ⟨_, rfl, by decide, List.mem_of_getElem? (i := 224) (by decide +kernel), by decide +kernel, rfl⟩
theorem f_X6_12 : jfl RX6 12 6 0 (.object "InterchangeDesk$Text") true := ⟨_, rfl, by decide, List.mem_of_getElem? (i := 244) (by decide +kernel), by decide +kernel, rfl⟩
theorem f_X6_18 : jfl RX6 18 6 1 (.array (.object "InterchangeDesk$Table")) true := ⟨_, rfl, by decide, List.mem_of_getElem? (i := 245) (by decide +kernel), by decide +kernel, rfl⟩
theorem f_X6_27 : jfl RX6 27 6 2 (.object "InterchangeDesk$Paper") true := ⟨_, rfl, by decide, List.mem_of_getElem? (i := 246) (by decide +kernel), by decide +kernel, rfl⟩
theorem f_X6_31 : jfl RX6 31 6 3 (.object "InterchangeDesk$Paper") true := ⟨_, rfl, by decide, List.mem_of_getElem? (i := 247) (by decide +kernel), by decide +kernel, rfl⟩
theorem f_X6_37 : jfl RX6 37 6 4 (.object "InterchangeDesk$Envelopes") false := ⟨_, rfl, by decide, List.mem_of_getElem? (i := 248) (by decide +kernel), by decide +kernel, rfl⟩
theorem f_X6_41 : jfl RX6 41 6 5 (.object "InterchangeDesk$Envelopes") false := ⟨_, rfl, by decide, List.mem_of_getElem? (i := 249) (by decide +kernel), by decide +kernel, rfl⟩
theorem f_X6_44 : jfl RX6 44 6 6 .boolean false := ⟨_, rfl, by decide, List.mem_of_getElem? (i := 250) (by decide +kernel), by decide +kernel, rfl⟩
theorem f_X6_48 : jfl RX6 48 6 7 .int false := ⟨_, rfl, by decide, List.mem_of_getElem? (i := 251) (by decide +kernel), by decide +kernel, rfl⟩
theorem f_X7_102 : jfl RX7 102 7 0 .int false := ⟨_, rfl, by decide, List.mem_of_getElem? (i := 879) (by decide +kernel), by decide +kernel, rfl⟩
theorem f_X7_105 : jfl RX7 105 7 1 .int false := ⟨_, rfl, by decide, List.mem_of_getElem? (i := 880) (by decide +kernel), by decide +kernel, rfl⟩
theorem f_X7_7 : jfl RX7 7 7 2 (.array .int) false := ⟨_, rfl, by decide, List.mem_of_getElem? (i := 881) (by decide +kernel), by decide +kernel, rfl⟩
theorem f_X7_13 : jfl RX7 13 7 3 (.array .int) false := ⟨_, rfl, by decide, List.mem_of_getElem? (i := 882) (by decide +kernel), by decide +kernel, rfl⟩
theorem f_X7_16 : jfl RX7 16 7 4 (.array .int) false := ⟨_, rfl, by decide, List.mem_of_getElem? (i := 883) (by decide +kernel), by decide +kernel, rfl⟩
theorem f_X7_19 : jfl RX7 19 7 5 (.array .boolean) false := ⟨_, rfl, by decide, List.mem_of_getElem? (i := 884) (by decide +kernel), by decide +kernel, rfl⟩
theorem f_X7_23 : jfl RX7 23 7 6 (.array .int) false := ⟨_, rfl, by decide, List.mem_of_getElem? (i := 885) (by decide +kernel), by decide +kernel, rfl⟩
theorem f_X7_26 : jfl RX7 26 7 7 (.array .int) false := ⟨_, rfl, by decide, List.mem_of_getElem? (i := 886) (by decide +kernel), by decide +kernel, rfl⟩
theorem f_X7_29 : jfl RX7 29 7 8 (.array .int) false := ⟨_, rfl, by decide, List.mem_of_getElem? (i := 887) (by decide +kernel), by decide +kernel, rfl⟩
theorem f_X7_142 : jfl RX7 142 7 9 .int false := ⟨_, rfl, by decide, List.mem_of_getElem? (i := 888) (by decide +kernel), by decide +kernel, rfl⟩
theorem f_X7_145 : jfl RX7 145 7 10 .int false := ⟨_, rfl, by decide, List.mem_of_getElem? (i := 889) (by decide +kernel), by decide +kernel, rfl⟩
theorem f_X7_148 : jfl RX7 148 7 11 .int false := ⟨_, rfl, by decide, List.mem_of_getElem? (i := 890) (by decide +kernel), by decide +kernel, rfl⟩
theorem f_X7_151 : jfl RX7 151 7 12 .int false := ⟨_, rfl, by decide, List.mem_of_getElem? (i := 891) (by decide +kernel), by decide +kernel, rfl⟩
theorem f_X7_32 : jfl RX7 32 7 13 .int false := ⟨_, rfl, by decide, List.mem_of_getElem? (i := 892) (by decide +kernel), by decide +kernel, rfl⟩
theorem f_X7_169 : jfl RX7 169 7 14 .int false := ⟨_, rfl, by decide, List.mem_of_getElem? (i := 893) (by decide +kernel), by decide +kernel, rfl⟩
theorem f_X7_36 : jfl RX7 36 7 15 (.array .int) false := ⟨_, rfl, by decide, List.mem_of_getElem? (i := 894) (by decide +kernel), by decide +kernel, rfl⟩
theorem f_X7_39 : jfl RX7 39 7 16 (.array .int) false := ⟨_, rfl, by decide, List.mem_of_getElem? (i := 895) (by decide +kernel), by decide +kernel, rfl⟩
theorem f_X7_163 : jfl RX7 163 7 17 .int false := ⟨_, rfl, by decide, List.mem_of_getElem? (i := 896) (by decide +kernel), by decide +kernel, rfl⟩
theorem f_X7_42 : jfl RX7 42 7 18 (.array .int) false := ⟨_, rfl, by decide, List.mem_of_getElem? (i := 897) (by decide +kernel), by decide +kernel, rfl⟩
theorem f_X7_157 : jfl RX7 157 7 19 .int false := ⟨_, rfl, by decide, List.mem_of_getElem? (i := 898) (by decide +kernel), by decide +kernel, rfl⟩
theorem f_X7_45 : jfl RX7 45 7 20 (.array .int) false := ⟨_, rfl, by decide, List.mem_of_getElem? (i := 899) (by decide +kernel), by decide +kernel, rfl⟩
theorem f_X7_160 : jfl RX7 160 7 21 .int false := ⟨_, rfl, by decide, List.mem_of_getElem? (i := 900) (by decide +kernel), by decide +kernel, rfl⟩
theorem f_X7_48 : jfl RX7 48 7 22 (.array .int) false := ⟨_, rfl, by decide, List.mem_of_getElem? (i := 901) (by decide +kernel), by decide +kernel, rfl⟩
theorem f_X7_253 : jfl RX7 253 7 23 .boolean false := ⟨_, rfl, by decide, List.mem_of_getElem? (i := 902) (by decide +kernel), by decide +kernel, rfl⟩
theorem f_X7_187 : jfl RX7 187 7 24 .int false := ⟨_, rfl, by decide, List.mem_of_getElem? (i := 903) (by decide +kernel), by decide +kernel, rfl⟩
theorem f_X7_51 : jfl RX7 51 7 25 (.array .int) false := ⟨_, rfl, by decide, List.mem_of_getElem? (i := 904) (by decide +kernel), by decide +kernel, rfl⟩
theorem f_X7_54 : jfl RX7 54 7 26 (.array .int) false := ⟨_, rfl, by decide, List.mem_of_getElem? (i := 905) (by decide +kernel), by decide +kernel, rfl⟩
theorem f_X7_190 : jfl RX7 190 7 27 .int false := ⟨_, rfl, by decide, List.mem_of_getElem? (i := 906) (by decide +kernel), by decide +kernel, rfl⟩
theorem f_X7_57 : jfl RX7 57 7 28 (.array .int) false := ⟨_, rfl, by decide, List.mem_of_getElem? (i := 907) (by decide +kernel), by decide +kernel, rfl⟩
theorem f_X7_193 : jfl RX7 193 7 29 .int false := ⟨_, rfl, by decide, List.mem_of_getElem? (i := 908) (by decide +kernel), by decide +kernel, rfl⟩
theorem f_X7_60 : jfl RX7 60 7 30 (.array .int) false := ⟨_, rfl, by decide, List.mem_of_getElem? (i := 909) (by decide +kernel), by decide +kernel, rfl⟩
theorem f_X7_63 : jfl RX7 63 7 31 (.array .int) false := ⟨_, rfl, by decide, List.mem_of_getElem? (i := 910) (by decide +kernel), by decide +kernel, rfl⟩
theorem f_X7_260 : jfl RX7 260 7 32 .int false := ⟨_, rfl, by decide, List.mem_of_getElem? (i := 911) (by decide +kernel), by decide +kernel, rfl⟩
theorem f_X7_196 : jfl RX7 196 7 33 .int false := ⟨_, rfl, by decide, List.mem_of_getElem? (i := 912) (by decide +kernel), by decide +kernel, rfl⟩
theorem f_X7_66 : jfl RX7 66 7 34 (.array .int) false := ⟨_, rfl, by decide, List.mem_of_getElem? (i := 913) (by decide +kernel), by decide +kernel, rfl⟩
theorem f_X7_69 : jfl RX7 69 7 35 (.array .int) false := ⟨_, rfl, by decide, List.mem_of_getElem? (i := 914) (by decide +kernel), by decide +kernel, rfl⟩
theorem f_X7_72 : jfl RX7 72 7 36 (.array .int) false := ⟨_, rfl, by decide, List.mem_of_getElem? (i := 915) (by decide +kernel), by decide +kernel, rfl⟩
theorem f_X7_75 : jfl RX7 75 7 37 (.array .int) false := ⟨_, rfl, by decide, List.mem_of_getElem? (i := 916) (by decide +kernel), by decide +kernel, rfl⟩
theorem f_X7_78 : jfl RX7 78 7 38 (.array .int) false := ⟨_, rfl, by decide, List.mem_of_getElem? (i := 917) (by decide +kernel), by decide +kernel, rfl⟩
theorem f_X7_199 : jfl RX7 199 7 39 .int false := ⟨_, rfl, by decide, List.mem_of_getElem? (i := 918) (by decide +kernel), by decide +kernel, rfl⟩
theorem f_X7_81 : jfl RX7 81 7 40 (.array .int) false := ⟨_, rfl, by decide, List.mem_of_getElem? (i := 919) (by decide +kernel), by decide +kernel, rfl⟩
theorem f_X7_84 : jfl RX7 84 7 41 (.array .int) false := ⟨_, rfl, by decide, List.mem_of_getElem? (i := 920) (by decide +kernel), by decide +kernel, rfl⟩
theorem f_X7_87 : jfl RX7 87 7 42 (.array .int) false := ⟨_, rfl, by decide, List.mem_of_getElem? (i := 921) (by decide +kernel), by decide +kernel, rfl⟩
theorem f_X7_218 : jfl RX7 218 7 43 .int false := ⟨_, rfl, by decide, List.mem_of_getElem? (i := 922) (by decide +kernel), by decide +kernel, rfl⟩
theorem f_X7_221 : jfl RX7 221 7 44 .int false := ⟨_, rfl, by decide, List.mem_of_getElem? (i := 923) (by decide +kernel), by decide +kernel, rfl⟩
theorem f_X7_215 : jfl RX7 215 7 45 .int false := ⟨_, rfl, by decide, List.mem_of_getElem? (i := 924) (by decide +kernel), by decide +kernel, rfl⟩
theorem f_X7_90 : jfl RX7 90 7 46 (.array .int) false := ⟨_, rfl, by decide, List.mem_of_getElem? (i := 925) (by decide +kernel), by decide +kernel, rfl⟩
theorem f_X7_93 : jfl RX7 93 7 47 (.array .int) false := ⟨_, rfl, by decide, List.mem_of_getElem? (i := 926) (by decide +kernel), by decide +kernel, rfl⟩
theorem f_X7_275 : jfl RX7 275 7 48 .int false := ⟨_, rfl, by decide, List.mem_of_getElem? (i := 927) (by decide +kernel), by decide +kernel, rfl⟩
theorem f_X7_96 : jfl RX7 96 7 49 (.array .int) false := ⟨_, rfl, by decide, List.mem_of_getElem? (i := 928) (by decide +kernel), by decide +kernel, rfl⟩
theorem f_X7_272 : jfl RX7 272 7 50 .int false := ⟨_, rfl, by decide, List.mem_of_getElem? (i := 929) (by decide +kernel), by decide +kernel, rfl⟩
theorem f_X7_99 : jfl RX7 99 7 51 (.array .int) false := ⟨_, rfl, by decide, List.mem_of_getElem? (i := 930) (by decide +kernel), by decide +kernel, rfl⟩
theorem f_X7_269 : jfl RX7 269 7 52 .boolean false := ⟨_, rfl, by decide, List.mem_of_getElem? (i := 931) (by decide +kernel), by decide +kernel, rfl⟩
/-! calls -/
theorem i_L_55 : jini RL 55 mX6_init 0 := ⟨cal_X6_init, rfl, rfl, List.mem_of_getElem? (i := 76) (by decide +kernel), List.mem_of_getElem? (i := 77) (by decide +kernel)⟩
theorem i_X6_11 : jinN RX6 11 "InterchangeDesk" mX5_init 0 := ⟨cal_X5_init, rfl, rfl, List.mem_of_getElem? (i := 84) (by decide +kernel), List.mem_of_getElem? (i := 85) (by decide +kernel)⟩
theorem i_X5_11 : jini RX5 11 mX3_init 1 := ⟨cal_X3_init, rfl, rfl, List.mem_of_getElem? (i := 90) (by decide +kernel), List.mem_of_getElem? (i := 91) (by decide +kernel)⟩
theorem i_X6_24 : jini RX6 24 mX1_init 1 := ⟨cal_X1_init, rfl, rfl, List.mem_of_getElem? (i := 128) (by decide +kernel), List.mem_of_getElem? (i := 129) (by decide +kernel)⟩
theorem i_X1_11 : jini RX1 11 mX3_init 1 := ⟨cal_X3_init, rfl, rfl, List.mem_of_getElem? (i := 133) (by decide +kernel), List.mem_of_getElem? (i := 91) (by decide +kernel)⟩
theorem i_X6_36 : jinN RX6 36 "InterchangeDesk" mX0_init 0 := ⟨cal_X0_init, rfl, rfl, List.mem_of_getElem? (i := 140) (by decide +kernel), List.mem_of_getElem? (i := 141) (by decide +kernel)⟩
theorem i_X0_11 : jinN RX0 11 "InterchangeDesk" mX2_init 0 := ⟨cal_X2_init, rfl, rfl, List.mem_of_getElem? (i := 146) (by decide +kernel), List.mem_of_getElem? (i := 147) (by decide +kernel)⟩
theorem i_X2_11 : jini RX2 11 mX3_init 1 := ⟨cal_X3_init, rfl, rfl, List.mem_of_getElem? (i := 151) (by decide +kernel), List.mem_of_getElem? (i := 91) (by decide +kernel)⟩
theorem i_X0_20 : jini RX0 20 mX3_init 1 := ⟨cal_X3_init, rfl, rfl, List.mem_of_getElem? (i := 169) (by decide +kernel), List.mem_of_getElem? (i := 91) (by decide +kernel)⟩
theorem i_X6_52 : jinN RX6 52 "InterchangeDesk" mX4_init 0 := ⟨cal_X4_init, rfl, rfl, List.mem_of_getElem? (i := 210) (by decide +kernel), List.mem_of_getElem? (i := 211) (by decide +kernel)⟩
theorem i_X4_11 : jini RX4 11 mX3_init 1 := ⟨cal_X3_init, rfl, rfl, List.mem_of_getElem? (i := 215) (by decide +kernel), List.mem_of_getElem? (i := 91) (by decide +kernel)⟩
theorem v_L_61 : jvir RL 61 6 mX6_type 1 := ⟨cal_X6_type, ⟨_, rfl, rfl⟩, List.mem_of_getElem? (i := 269) (by decide +kernel), List.mem_of_getElem? (i := 270) (by decide +kernel), List.mem_of_getElem? (i := 271) (by decide +kernel)⟩
theorem s_X6_53 : jsta RX6 53 mX6_byteOf 2 := ⟨cal_X6_byteOf, List.mem_of_getElem? (i := 273) (by decide +kernel), List.mem_of_getElem? (i := 274) (by decide +kernel)⟩
theorem v_X6_57 : jvir RX6 57 5 mX5_size 0 := ⟨cal_X5_size, ⟨_, rfl, rfl⟩, List.mem_of_getElem? (i := 276) (by decide +kernel), List.mem_of_getElem? (i := 277) (by decide +kernel), List.mem_of_getElem? (i := 278) (by decide +kernel)⟩
theorem v_X5_36 : jvir RX5 36 3 mX3_size 0 := ⟨cal_X3_size, ⟨_, rfl, rfl⟩, List.mem_of_getElem? (i := 280) (by decide +kernel), List.mem_of_getElem? (i := 281) (by decide +kernel), List.mem_of_getElem? (i := 282) (by decide +kernel)⟩
theorem v_X6_61 : jvir RX6 61 5 mX5_add 1 := ⟨cal_X5_add, ⟨_, rfl, rfl⟩, List.mem_of_getElem? (i := 284) (by decide +kernel), List.mem_of_getElem? (i := 285) (by decide +kernel), List.mem_of_getElem? (i := 286) (by decide +kernel)⟩
theorem v_X5_40 : jvir RX5 40 3 mX3_add 1 := ⟨cal_X3_add, ⟨_, rfl, rfl⟩, List.mem_of_getElem? (i := 288) (by decide +kernel), List.mem_of_getElem? (i := 289) (by decide +kernel), List.mem_of_getElem? (i := 290) (by decide +kernel)⟩
theorem v_L_66 : jvir RL 66 6 mX6_wipe 0 := ⟨cal_X6_wipe, ⟨_, rfl, rfl⟩, List.mem_of_getElem? (i := 292) (by decide +kernel), List.mem_of_getElem? (i := 293) (by decide +kernel), List.mem_of_getElem? (i := 294) (by decide +kernel)⟩
theorem v_X6_64 : jvir RX6 64 5 mX5_empty 0 := ⟨cal_X5_empty, ⟨_, rfl, rfl⟩, List.mem_of_getElem? (i := 296) (by decide +kernel), List.mem_of_getElem? (i := 297) (by decide +kernel), List.mem_of_getElem? (i := 298) (by decide +kernel)⟩
theorem v_X5_43 : jvir RX5 43 3 mX3_empty 0 := ⟨cal_X3_empty, ⟨_, rfl, rfl⟩, List.mem_of_getElem? (i := 300) (by decide +kernel), List.mem_of_getElem? (i := 301) (by decide +kernel), List.mem_of_getElem? (i := 302) (by decide +kernel)⟩
theorem v_L_70 : jvir RL 70 6 mX6_length 0 := ⟨cal_X6_length, ⟨_, rfl, rfl⟩, List.mem_of_getElem? (i := 304) (by decide +kernel), List.mem_of_getElem? (i := 305) (by decide +kernel), List.mem_of_getElem? (i := 306) (by decide +kernel)⟩
theorem v_L_98 : jvir RL 98 6 mX6_fault 0 := ⟨cal_X6_fault, ⟨_, rfl, rfl⟩, List.mem_of_getElem? (i := 308) (by decide +kernel), List.mem_of_getElem? (i := 309) (by decide +kernel), List.mem_of_getElem? (i := 310) (by decide +kernel)⟩
theorem s_L_74 : jstW RL 74 mL_slot hL_slot 6 := ⟨List.mem_of_getElem? (i := 314) (by decide +kernel), List.mem_of_getElem? (i := 58) (by decide +kernel), ⟨by decide +kernel, by decide +kernel⟩, by decide +kernel, by decide +kernel, by decide, List.mem_of_getElem? (i := 312) (by decide +kernel), List.mem_of_getElem? (i := 313) (by decide +kernel)⟩
theorem v_L_7 : jvir RL 7 6 mX6_slot 4 := ⟨cal_X6_slot, ⟨_, rfl, rfl⟩, List.mem_of_getElem? (i := 317) (by decide +kernel), List.mem_of_getElem? (i := 318) (by decide +kernel), List.mem_of_getElem? (i := 319) (by decide +kernel)⟩
theorem v_X6_67 : jvir RX6 67 6 mX6_tableOf 1 := ⟨cal_X6_tableOf, ⟨_, rfl, rfl⟩, List.mem_of_getElem? (i := 321) (by decide +kernel), List.mem_of_getElem? (i := 323) (by decide +kernel), List.mem_of_getElem? (i := 0) (by decide +kernel)⟩
theorem s_X6_71 : jsta RX6 71 mX6_isTag 1 := ⟨cal_X6_isTag, List.mem_of_getElem? (i := 325) (by decide +kernel), List.mem_of_getElem? (i := 326) (by decide +kernel)⟩
theorem s_X6_193 : jsta RX6 193 mX6_isCapital 1 := ⟨cal_X6_isCapital, List.mem_of_getElem? (i := 328) (by decide +kernel), List.mem_of_getElem? (i := 329) (by decide +kernel)⟩
theorem s_X6_75 : jsta RX6 75 mX6_isEnvelopeTag 1 := ⟨cal_X6_isEnvelopeTag, List.mem_of_getElem? (i := 331) (by decide +kernel), List.mem_of_getElem? (i := 332) (by decide +kernel)⟩
theorem s_X6_78 : jsta RX6 78 mX6_isMost 1 := ⟨cal_X6_isMost, List.mem_of_getElem? (i := 340) (by decide +kernel), List.mem_of_getElem? (i := 341) (by decide +kernel)⟩
theorem v_X6_88 : jvir RX6 88 4 mX4_isFull 0 := ⟨cal_X4_isFull, ⟨_, rfl, rfl⟩, List.mem_of_getElem? (i := 411) (by decide +kernel), List.mem_of_getElem? (i := 412) (by decide +kernel), List.mem_of_getElem? (i := 413) (by decide +kernel)⟩
theorem v_X4_45 : jvir RX4 45 3 mX3_size 0 := ⟨cal_X3_size, ⟨_, rfl, rfl⟩, List.mem_of_getElem? (i := 415) (by decide +kernel), List.mem_of_getElem? (i := 281) (by decide +kernel), List.mem_of_getElem? (i := 282) (by decide +kernel)⟩
theorem v_X6_92 : jvir RX6 92 4 mX4_wantsTrigger 0 := ⟨cal_X4_wantsTrigger, ⟨_, rfl, rfl⟩, List.mem_of_getElem? (i := 416) (by decide +kernel), List.mem_of_getElem? (i := 417) (by decide +kernel), List.mem_of_getElem? (i := 418) (by decide +kernel)⟩
theorem v_X6_100 : jvir RX6 100 4 mX4_addSegment 3 := ⟨cal_X4_addSegment, ⟨_, rfl, rfl⟩, List.mem_of_getElem? (i := 436) (by decide +kernel), List.mem_of_getElem? (i := 437) (by decide +kernel), List.mem_of_getElem? (i := 438) (by decide +kernel)⟩
theorem v_X4_49 : jvir RX4 49 3 mX3_add 1 := ⟨cal_X3_add, ⟨_, rfl, rfl⟩, List.mem_of_getElem? (i := 440) (by decide +kernel), List.mem_of_getElem? (i := 289) (by decide +kernel), List.mem_of_getElem? (i := 290) (by decide +kernel)⟩
theorem s_L_83 : jstW RL 83 mL_open hL_open 5 := ⟨List.mem_of_getElem? (i := 443) (by decide +kernel), List.mem_of_getElem? (i := 58) (by decide +kernel), ⟨by decide +kernel, by decide +kernel⟩, by decide +kernel, by decide +kernel, by decide, List.mem_of_getElem? (i := 441) (by decide +kernel), List.mem_of_getElem? (i := 442) (by decide +kernel)⟩
theorem v_L_17 : jvir RL 17 6 mX6_open 3 := ⟨cal_X6_open, ⟨_, rfl, rfl⟩, List.mem_of_getElem? (i := 444) (by decide +kernel), List.mem_of_getElem? (i := 445) (by decide +kernel), List.mem_of_getElem? (i := 446) (by decide +kernel)⟩
theorem v_X6_106 : jvir RX6 106 4 mX4_isDeepest 0 := ⟨cal_X4_isDeepest, ⟨_, rfl, rfl⟩, List.mem_of_getElem? (i := 449) (by decide +kernel), List.mem_of_getElem? (i := 450) (by decide +kernel), List.mem_of_getElem? (i := 451) (by decide +kernel)⟩
theorem v_X6_111 : jvir RX6 111 4 mX4_addGroup 2 := ⟨cal_X4_addGroup, ⟨_, rfl, rfl⟩, List.mem_of_getElem? (i := 454) (by decide +kernel), List.mem_of_getElem? (i := 455) (by decide +kernel), List.mem_of_getElem? (i := 456) (by decide +kernel)⟩
theorem v_X4_52 : jvir RX4 52 4 mX4_addSegment 3 := ⟨cal_X4_addSegment, ⟨_, rfl, rfl⟩, List.mem_of_getElem? (i := 458) (by decide +kernel), List.mem_of_getElem? (i := 437) (by decide +kernel), List.mem_of_getElem? (i := 438) (by decide +kernel)⟩
theorem s_L_87 : jstW RL 87 mL_close hL_close 3 := ⟨List.mem_of_getElem? (i := 461) (by decide +kernel), List.mem_of_getElem? (i := 58) (by decide +kernel), ⟨by decide +kernel, by decide +kernel⟩, by decide +kernel, by decide +kernel, by decide, List.mem_of_getElem? (i := 459) (by decide +kernel), List.mem_of_getElem? (i := 460) (by decide +kernel)⟩
theorem v_L_21 : jvir RL 21 6 mX6_close 1 := ⟨cal_X6_close, ⟨_, rfl, rfl⟩, List.mem_of_getElem? (i := 462) (by decide +kernel), List.mem_of_getElem? (i := 463) (by decide +kernel), List.mem_of_getElem? (i := 464) (by decide +kernel)⟩
theorem v_X6_117 : jvir RX6 117 4 mX4_closeList 0 := ⟨cal_X4_closeList, ⟨_, rfl, rfl⟩, List.mem_of_getElem? (i := 467) (by decide +kernel), List.mem_of_getElem? (i := 468) (by decide +kernel), List.mem_of_getElem? (i := 469) (by decide +kernel)⟩
theorem v_X4_56 : jvir RX4 56 4 mX4_wantsTrigger 0 := ⟨cal_X4_wantsTrigger, ⟨_, rfl, rfl⟩, List.mem_of_getElem? (i := 471) (by decide +kernel), List.mem_of_getElem? (i := 417) (by decide +kernel), List.mem_of_getElem? (i := 418) (by decide +kernel)⟩
theorem v_X4_60 : jvir RX4 60 3 mX3_at 1 := ⟨cal_X3_at, ⟨_, rfl, rfl⟩, List.mem_of_getElem? (i := 472) (by decide +kernel), List.mem_of_getElem? (i := 473) (by decide +kernel), List.mem_of_getElem? (i := 474) (by decide +kernel)⟩
theorem s_L_91 : jstW RL 91 mL_clear hL_clear 3 := ⟨List.mem_of_getElem? (i := 478) (by decide +kernel), List.mem_of_getElem? (i := 58) (by decide +kernel), ⟨by decide +kernel, by decide +kernel⟩, by decide +kernel, by decide +kernel, by decide, List.mem_of_getElem? (i := 476) (by decide +kernel), List.mem_of_getElem? (i := 477) (by decide +kernel)⟩
theorem v_L_25 : jvir RL 25 6 mX6_clear 1 := ⟨cal_X6_clear, ⟨_, rfl, rfl⟩, List.mem_of_getElem? (i := 479) (by decide +kernel), List.mem_of_getElem? (i := 480) (by decide +kernel), List.mem_of_getElem? (i := 481) (by decide +kernel)⟩
theorem v_X6_120 : jvir RX6 120 4 mX4_isEmpty 0 := ⟨cal_X4_isEmpty, ⟨_, rfl, rfl⟩, List.mem_of_getElem? (i := 483) (by decide +kernel), List.mem_of_getElem? (i := 484) (by decide +kernel), List.mem_of_getElem? (i := 485) (by decide +kernel)⟩
theorem v_X6_123 : jvir RX6 123 4 mX4_empty 0 := ⟨cal_X4_empty, ⟨_, rfl, rfl⟩, List.mem_of_getElem? (i := 487) (by decide +kernel), List.mem_of_getElem? (i := 488) (by decide +kernel), List.mem_of_getElem? (i := 489) (by decide +kernel)⟩
theorem v_X4_64 : jvir RX4 64 3 mX3_empty 0 := ⟨cal_X3_empty, ⟨_, rfl, rfl⟩, List.mem_of_getElem? (i := 491) (by decide +kernel), List.mem_of_getElem? (i := 301) (by decide +kernel), List.mem_of_getElem? (i := 302) (by decide +kernel)⟩
theorem s_L_94 : jstW RL 94 mL_read hL_read 2 := ⟨List.mem_of_getElem? (i := 494) (by decide +kernel), List.mem_of_getElem? (i := 58) (by decide +kernel), ⟨by decide +kernel, by decide +kernel⟩, by decide +kernel, by decide +kernel, by decide, List.mem_of_getElem? (i := 492) (by decide +kernel), List.mem_of_getElem? (i := 493) (by decide +kernel)⟩
theorem v_L_28 : jvir RL 28 6 mX6_read 0 := ⟨cal_X6_read, ⟨_, rfl, rfl⟩, List.mem_of_getElem? (i := 496) (by decide +kernel), List.mem_of_getElem? (i := 497) (by decide +kernel), List.mem_of_getElem? (i := 498) (by decide +kernel)⟩
theorem v_X6_128 : jvir RX6 128 5 mX5_takeApart 1 := ⟨cal_X5_takeApart, ⟨_, rfl, rfl⟩, List.mem_of_getElem? (i := 500) (by decide +kernel), List.mem_of_getElem? (i := 501) (by decide +kernel), List.mem_of_getElem? (i := 502) (by decide +kernel)⟩
theorem v_X5_46 : jvir RX5 46 2 mX2_empty 0 := ⟨cal_X2_empty, ⟨_, rfl, rfl⟩, List.mem_of_getElem? (i := 504) (by decide +kernel), List.mem_of_getElem? (i := 505) (by decide +kernel), List.mem_of_getElem? (i := 506) (by decide +kernel)⟩
theorem v_X2_32 : jvir RX2 32 3 mX3_empty 0 := ⟨cal_X3_empty, ⟨_, rfl, rfl⟩, List.mem_of_getElem? (i := 508) (by decide +kernel), List.mem_of_getElem? (i := 301) (by decide +kernel), List.mem_of_getElem? (i := 302) (by decide +kernel)⟩
theorem v_X5_49 : jvir RX5 49 5 mX5_takeMarks 0 := ⟨cal_X5_takeMarks, ⟨_, rfl, rfl⟩, List.mem_of_getElem? (i := 509) (by decide +kernel), List.mem_of_getElem? (i := 511) (by decide +kernel), List.mem_of_getElem? (i := 2) (by decide +kernel)⟩
theorem v_X5_60 : jvir RX5 60 3 mX3_at 1 := ⟨cal_X3_at, ⟨_, rfl, rfl⟩, List.mem_of_getElem? (i := 513) (by decide +kernel), List.mem_of_getElem? (i := 473) (by decide +kernel), List.mem_of_getElem? (i := 474) (by decide +kernel)⟩
theorem v_X5_64 : jvir RX5 64 5 mX5_takeChoice 1 := ⟨cal_X5_takeChoice, ⟨_, rfl, rfl⟩, List.mem_of_getElem? (i := 514) (by decide +kernel), List.mem_of_getElem? (i := 516) (by decide +kernel), List.mem_of_getElem? (i := 3) (by decide +kernel)⟩
theorem s_X5_68 : jsta RX5 68 mX5_canBeMark 1 := ⟨cal_X5_canBeMark, List.mem_of_getElem? (i := 518) (by decide +kernel), List.mem_of_getElem? (i := 519) (by decide +kernel)⟩
theorem s_X5_71 : jstN RX5 71 "InterchangeDesk" mX6_isDigit 1 := ⟨cal_X6_isDigit, List.mem_of_getElem? (i := 521) (by decide +kernel), List.mem_of_getElem? (i := 522) (by decide +kernel)⟩
theorem s_X5_74 : jstN RX5 74 "InterchangeDesk" mX6_isCapital 1 := ⟨cal_X6_isCapital, List.mem_of_getElem? (i := 524) (by decide +kernel), List.mem_of_getElem? (i := 329) (by decide +kernel)⟩
theorem v_X5_53 : jvir RX5 53 5 mX5_takeSegment 1 := ⟨cal_X5_takeSegment, ⟨_, rfl, rfl⟩, List.mem_of_getElem? (i := 525) (by decide +kernel), List.mem_of_getElem? (i := 527) (by decide +kernel), List.mem_of_getElem? (i := 4) (by decide +kernel)⟩
theorem v_X5_77 : jvir RX5 77 2 mX2_addSegment 1 := ⟨cal_X2_addSegment, ⟨_, rfl, rfl⟩, List.mem_of_getElem? (i := 529) (by decide +kernel), List.mem_of_getElem? (i := 530) (by decide +kernel), List.mem_of_getElem? (i := 531) (by decide +kernel)⟩
theorem v_X2_35 : jvir RX2 35 3 mX3_add 1 := ⟨cal_X3_add, ⟨_, rfl, rfl⟩, List.mem_of_getElem? (i := 533) (by decide +kernel), List.mem_of_getElem? (i := 289) (by decide +kernel), List.mem_of_getElem? (i := 290) (by decide +kernel)⟩
theorem v_X2_38 : jvir RX2 38 3 mX3_size 0 := ⟨cal_X3_size, ⟨_, rfl, rfl⟩, List.mem_of_getElem? (i := 534) (by decide +kernel), List.mem_of_getElem? (i := 281) (by decide +kernel), List.mem_of_getElem? (i := 282) (by decide +kernel)⟩
theorem v_X5_80 : jvir RX5 80 2 mX2_isFull 0 := ⟨cal_X2_isFull, ⟨_, rfl, rfl⟩, List.mem_of_getElem? (i := 535) (by decide +kernel), List.mem_of_getElem? (i := 536) (by decide +kernel), List.mem_of_getElem? (i := 537) (by decide +kernel)⟩
theorem v_X5_83 : jvir RX5 83 2 mX2_addElement 0 := ⟨cal_X2_addElement, ⟨_, rfl, rfl⟩, List.mem_of_getElem? (i := 539) (by decide +kernel), List.mem_of_getElem? (i := 540) (by decide +kernel), List.mem_of_getElem? (i := 541) (by decide +kernel)⟩
theorem v_X5_86 : jvir RX5 86 5 mX5_takeElement 1 := ⟨cal_X5_takeElement, ⟨_, rfl, rfl⟩, List.mem_of_getElem? (i := 543) (by decide +kernel), List.mem_of_getElem? (i := 545) (by decide +kernel), List.mem_of_getElem? (i := 5) (by decide +kernel)⟩
theorem v_X5_90 : jvir RX5 90 2 mX2_addComponent 0 := ⟨cal_X2_addComponent, ⟨_, rfl, rfl⟩, List.mem_of_getElem? (i := 547) (by decide +kernel), List.mem_of_getElem? (i := 548) (by decide +kernel), List.mem_of_getElem? (i := 549) (by decide +kernel)⟩
theorem v_X5_93 : jvir RX5 93 5 mX5_takeComponent 1 := ⟨cal_X5_takeComponent, ⟨_, rfl, rfl⟩, List.mem_of_getElem? (i := 551) (by decide +kernel), List.mem_of_getElem? (i := 553) (by decide +kernel), List.mem_of_getElem? (i := 6) (by decide +kernel)⟩
theorem v_X5_96 : jvir RX5 96 2 mX2_addCharacter 1 := ⟨cal_X2_addCharacter, ⟨_, rfl, rfl⟩, List.mem_of_getElem? (i := 555) (by decide +kernel), List.mem_of_getElem? (i := 556) (by decide +kernel), List.mem_of_getElem? (i := 557) (by decide +kernel)⟩
theorem v_X5_57 : jvir RX5 57 2 mX2_finish 0 := ⟨cal_X2_finish, ⟨_, rfl, rfl⟩, List.mem_of_getElem? (i := 559) (by decide +kernel), List.mem_of_getElem? (i := 560) (by decide +kernel), List.mem_of_getElem? (i := 561) (by decide +kernel)⟩
theorem v_X6_134 : jvir RX6 134 0 mX0_fit 0 := ⟨cal_X0_fit, ⟨_, rfl, rfl⟩, List.mem_of_getElem? (i := 564) (by decide +kernel), List.mem_of_getElem? (i := 565) (by decide +kernel), List.mem_of_getElem? (i := 566) (by decide +kernel)⟩
theorem v_X0_58 : jvir RX0 58 0 mX0_empty 0 := ⟨cal_X0_empty, ⟨_, rfl, rfl⟩, List.mem_of_getElem? (i := 568) (by decide +kernel), List.mem_of_getElem? (i := 570) (by decide +kernel), List.mem_of_getElem? (i := 7) (by decide +kernel)⟩
theorem v_X0_83 : jvir RX0 83 3 mX3_empty 0 := ⟨cal_X3_empty, ⟨_, rfl, rfl⟩, List.mem_of_getElem? (i := 572) (by decide +kernel), List.mem_of_getElem? (i := 301) (by decide +kernel), List.mem_of_getElem? (i := 302) (by decide +kernel)⟩
theorem v_X0_61 : jvir RX0 61 2 mX2_segmentCount 0 := ⟨cal_X2_segmentCount, ⟨_, rfl, rfl⟩, List.mem_of_getElem? (i := 573) (by decide +kernel), List.mem_of_getElem? (i := 574) (by decide +kernel), List.mem_of_getElem? (i := 575) (by decide +kernel)⟩
theorem v_X0_65 : jvir RX0 65 2 mX2_tagOf 1 := ⟨cal_X2_tagOf, ⟨_, rfl, rfl⟩, List.mem_of_getElem? (i := 577) (by decide +kernel), List.mem_of_getElem? (i := 578) (by decide +kernel), List.mem_of_getElem? (i := 579) (by decide +kernel)⟩
theorem v_X2_42 : jvir RX2 42 3 mX3_at 1 := ⟨cal_X3_at, ⟨_, rfl, rfl⟩, List.mem_of_getElem? (i := 581) (by decide +kernel), List.mem_of_getElem? (i := 473) (by decide +kernel), List.mem_of_getElem? (i := 474) (by decide +kernel)⟩
theorem v_X0_72 : jvir RX0 72 0 mX0_takeGroup 0 := ⟨cal_X0_takeGroup, ⟨_, rfl, rfl⟩, List.mem_of_getElem? (i := 585) (by decide +kernel), List.mem_of_getElem? (i := 587) (by decide +kernel), List.mem_of_getElem? (i := 8) (by decide +kernel)⟩
theorem v_X0_80 : jvir RX0 80 3 mX3_size 0 := ⟨cal_X3_size, ⟨_, rfl, rfl⟩, List.mem_of_getElem? (i := 589) (by decide +kernel), List.mem_of_getElem? (i := 281) (by decide +kernel), List.mem_of_getElem? (i := 282) (by decide +kernel)⟩
theorem v_X0_76 : jvir RX0 76 0 mX0_takeMessage 1 := ⟨cal_X0_takeMessage, ⟨_, rfl, rfl⟩, List.mem_of_getElem? (i := 591) (by decide +kernel), List.mem_of_getElem? (i := 593) (by decide +kernel), List.mem_of_getElem? (i := 9) (by decide +kernel)⟩
theorem s_X0_89 : jstN RX0 89 "InterchangeDesk" mX6_isEnvelopeTag 1 := ⟨cal_X6_isEnvelopeTag, List.mem_of_getElem? (i := 595) (by decide +kernel), List.mem_of_getElem? (i := 332) (by decide +kernel)⟩
theorem v_X0_86 : jvir RX0 86 3 mX3_add 1 := ⟨cal_X3_add, ⟨_, rfl, rfl⟩, List.mem_of_getElem? (i := 597) (by decide +kernel), List.mem_of_getElem? (i := 289) (by decide +kernel), List.mem_of_getElem? (i := 290) (by decide +kernel)⟩
theorem v_X6_142 : jvir RX6 142 0 mX0_judgeEnds 0 := ⟨cal_X0_judgeEnds, ⟨_, rfl, rfl⟩, List.mem_of_getElem? (i := 615) (by decide +kernel), List.mem_of_getElem? (i := 616) (by decide +kernel), List.mem_of_getElem? (i := 617) (by decide +kernel)⟩
theorem v_X0_110 : jvir RX0 110 0 mX0_reference 0 := ⟨cal_X0_reference, ⟨_, rfl, rfl⟩, List.mem_of_getElem? (i := 619) (by decide +kernel), List.mem_of_getElem? (i := 620) (by decide +kernel), List.mem_of_getElem? (i := 621) (by decide +kernel)⟩
theorem v_X0_96 : jvir RX0 96 2 mX2_componentAt 3 := ⟨cal_X2_componentAt, ⟨_, rfl, rfl⟩, List.mem_of_getElem? (i := 623) (by decide +kernel), List.mem_of_getElem? (i := 624) (by decide +kernel), List.mem_of_getElem? (i := 625) (by decide +kernel)⟩
theorem v_X2_46 : jvir RX2 46 2 mX2_elementAt 2 := ⟨cal_X2_elementAt, ⟨_, rfl, rfl⟩, List.mem_of_getElem? (i := 627) (by decide +kernel), List.mem_of_getElem? (i := 628) (by decide +kernel), List.mem_of_getElem? (i := 629) (by decide +kernel)⟩
theorem v_X0_113 : jvir RX0 113 0 mX0_codeOfEnd 3 := ⟨cal_X0_codeOfEnd, ⟨_, rfl, rfl⟩, List.mem_of_getElem? (i := 631) (by decide +kernel), List.mem_of_getElem? (i := 633) (by decide +kernel), List.mem_of_getElem? (i := 10) (by decide +kernel)⟩
theorem v_X0_123 : jvir RX0 123 0 mX0_isRightReference 2 := ⟨cal_X0_isRightReference, ⟨_, rfl, rfl⟩, List.mem_of_getElem? (i := 635) (by decide +kernel), List.mem_of_getElem? (i := 637) (by decide +kernel), List.mem_of_getElem? (i := 11) (by decide +kernel)⟩
theorem v_X0_104 : jvir RX0 104 2 mX2_widthOf 1 := ⟨cal_X2_widthOf, ⟨_, rfl, rfl⟩, List.mem_of_getElem? (i := 639) (by decide +kernel), List.mem_of_getElem? (i := 640) (by decide +kernel), List.mem_of_getElem? (i := 641) (by decide +kernel)⟩
theorem v_X0_130 : jvir RX0 130 2 mX2_areSame 2 := ⟨cal_X2_areSame, ⟨_, rfl, rfl⟩, List.mem_of_getElem? (i := 643) (by decide +kernel), List.mem_of_getElem? (i := 644) (by decide +kernel), List.mem_of_getElem? (i := 645) (by decide +kernel)⟩
theorem v_X2_50 : jvir RX2 50 2 mX2_widthOf 1 := ⟨cal_X2_widthOf, ⟨_, rfl, rfl⟩, List.mem_of_getElem? (i := 647) (by decide +kernel), List.mem_of_getElem? (i := 640) (by decide +kernel), List.mem_of_getElem? (i := 641) (by decide +kernel)⟩
theorem v_X0_127 : jvir RX0 127 0 mX0_isRightCount 2 := ⟨cal_X0_isRightCount, ⟨_, rfl, rfl⟩, List.mem_of_getElem? (i := 648) (by decide +kernel), List.mem_of_getElem? (i := 650) (by decide +kernel), List.mem_of_getElem? (i := 12) (by decide +kernel)⟩
theorem v_X0_133 : jvir RX0 133 2 mX2_isNumber 2 := ⟨cal_X2_isNumber, ⟨_, rfl, rfl⟩, List.mem_of_getElem? (i := 652) (by decide +kernel), List.mem_of_getElem? (i := 653) (by decide +kernel), List.mem_of_getElem? (i := 654) (by decide +kernel)⟩
theorem s_X2_63 : jstN RX2 63 "InterchangeDesk" mX6_isDigit 1 := ⟨cal_X6_isDigit, List.mem_of_getElem? (i := 656) (by decide +kernel), List.mem_of_getElem? (i := 522) (by decide +kernel)⟩
theorem v_X0_116 : jvir RX0 116 0 mX0_referenceOfGroup 1 := ⟨cal_X0_referenceOfGroup, ⟨_, rfl, rfl⟩, List.mem_of_getElem? (i := 657) (by decide +kernel), List.mem_of_getElem? (i := 658) (by decide +kernel), List.mem_of_getElem? (i := 659) (by decide +kernel)⟩
theorem v_X0_93 : jvir RX0 93 3 mX3_at 1 := ⟨cal_X3_at, ⟨_, rfl, rfl⟩, List.mem_of_getElem? (i := 661) (by decide +kernel), List.mem_of_getElem? (i := 473) (by decide +kernel), List.mem_of_getElem? (i := 474) (by decide +kernel)⟩
theorem v_X0_119 : jvir RX0 119 3 mX3_put 2 := ⟨cal_X3_put, ⟨_, rfl, rfl⟩, List.mem_of_getElem? (i := 662) (by decide +kernel), List.mem_of_getElem? (i := 663) (by decide +kernel), List.mem_of_getElem? (i := 664) (by decide +kernel)⟩
theorem v_X6_145 : jvir RX6 145 0 mX0_messageCount 0 := ⟨cal_X0_messageCount, ⟨_, rfl, rfl⟩, List.mem_of_getElem? (i := 666) (by decide +kernel), List.mem_of_getElem? (i := 667) (by decide +kernel), List.mem_of_getElem? (i := 668) (by decide +kernel)⟩
theorem v_X6_148 : jvir RX6 148 0 mX0_typeOf 1 := ⟨cal_X0_typeOf, ⟨_, rfl, rfl⟩, List.mem_of_getElem? (i := 670) (by decide +kernel), List.mem_of_getElem? (i := 671) (by decide +kernel), List.mem_of_getElem? (i := 672) (by decide +kernel)⟩
theorem v_X0_100 : jvir RX0 100 2 mX2_characterOf 2 := ⟨cal_X2_characterOf, ⟨_, rfl, rfl⟩, List.mem_of_getElem? (i := 674) (by decide +kernel), List.mem_of_getElem? (i := 675) (by decide +kernel), List.mem_of_getElem? (i := 676) (by decide +kernel)⟩
theorem s_X0_107 : jstN RX0 107 "InterchangeDesk" mX6_isDigit 1 := ⟨cal_X6_isDigit, List.mem_of_getElem? (i := 678) (by decide +kernel), List.mem_of_getElem? (i := 522) (by decide +kernel)⟩
theorem v_X6_152 : jvir RX6 152 0 mX0_judgeMessage 2 := ⟨cal_X0_judgeMessage, ⟨_, rfl, rfl⟩, List.mem_of_getElem? (i := 679) (by decide +kernel), List.mem_of_getElem? (i := 680) (by decide +kernel), List.mem_of_getElem? (i := 681) (by decide +kernel)⟩
theorem v_X0_136 : jvir RX0 136 0 mX0_referenceOfMessage 1 := ⟨cal_X0_referenceOfMessage, ⟨_, rfl, rfl⟩, List.mem_of_getElem? (i := 683) (by decide +kernel), List.mem_of_getElem? (i := 684) (by decide +kernel), List.mem_of_getElem? (i := 685) (by decide +kernel)⟩
theorem v_X0_139 : jvir RX0 139 0 mX0_note 3 := ⟨cal_X0_note, ⟨_, rfl, rfl⟩, List.mem_of_getElem? (i := 687) (by decide +kernel), List.mem_of_getElem? (i := 689) (by decide +kernel), List.mem_of_getElem? (i := 13) (by decide +kernel)⟩
theorem v_X0_143 : jvir RX0 143 0 mX0_isRepeated 1 := ⟨cal_X0_isRepeated, ⟨_, rfl, rfl⟩, List.mem_of_getElem? (i := 691) (by decide +kernel), List.mem_of_getElem? (i := 693) (by decide +kernel), List.mem_of_getElem? (i := 14) (by decide +kernel)⟩
theorem v_X0_146 : jvir RX0 146 4 mX4_isEmpty 0 := ⟨cal_X4_isEmpty, ⟨_, rfl, rfl⟩, List.mem_of_getElem? (i := 695) (by decide +kernel), List.mem_of_getElem? (i := 484) (by decide +kernel), List.mem_of_getElem? (i := 485) (by decide +kernel)⟩
theorem v_X0_151 : jvir RX0 151 0 mX0_matchMessage 2 := ⟨cal_X0_matchMessage, ⟨_, rfl, rfl⟩, List.mem_of_getElem? (i := 696) (by decide +kernel), List.mem_of_getElem? (i := 698) (by decide +kernel), List.mem_of_getElem? (i := 15) (by decide +kernel)⟩
theorem v_X0_155 : jvir RX0 155 4 mX4_startMatch 0 := ⟨cal_X4_startMatch, ⟨_, rfl, rfl⟩, List.mem_of_getElem? (i := 700) (by decide +kernel), List.mem_of_getElem? (i := 701) (by decide +kernel), List.mem_of_getElem? (i := 702) (by decide +kernel)⟩
theorem v_X0_158 : jvir RX0 158 4 mX4_match 1 := ⟨cal_X4_match, ⟨_, rfl, rfl⟩, List.mem_of_getElem? (i := 704) (by decide +kernel), List.mem_of_getElem? (i := 705) (by decide +kernel), List.mem_of_getElem? (i := 706) (by decide +kernel)⟩
theorem v_X4_67 : jvir RX4 67 4 mX4_standAtItem 0 := ⟨cal_X4_standAtItem, ⟨_, rfl, rfl⟩, List.mem_of_getElem? (i := 708) (by decide +kernel), List.mem_of_getElem? (i := 710) (by decide +kernel), List.mem_of_getElem? (i := 16) (by decide +kernel)⟩
theorem v_X4_70 : jvir RX4 70 4 mX4_firstTag 0 := ⟨cal_X4_firstTag, ⟨_, rfl, rfl⟩, List.mem_of_getElem? (i := 712) (by decide +kernel), List.mem_of_getElem? (i := 714) (by decide +kernel), List.mem_of_getElem? (i := 17) (by decide +kernel)⟩
theorem v_X4_73 : jvir RX4 73 4 mX4_takeItem 0 := ⟨cal_X4_takeItem, ⟨_, rfl, rfl⟩, List.mem_of_getElem? (i := 716) (by decide +kernel), List.mem_of_getElem? (i := 718) (by decide +kernel), List.mem_of_getElem? (i := 18) (by decide +kernel)⟩
theorem v_X4_82 : jvir RX4 82 3 mX3_put 2 := ⟨cal_X3_put, ⟨_, rfl, rfl⟩, List.mem_of_getElem? (i := 720) (by decide +kernel), List.mem_of_getElem? (i := 663) (by decide +kernel), List.mem_of_getElem? (i := 664) (by decide +kernel)⟩
theorem v_X4_79 : jvir RX4 79 4 mX4_goOn 0 := ⟨cal_X4_goOn, ⟨_, rfl, rfl⟩, List.mem_of_getElem? (i := 721) (by decide +kernel), List.mem_of_getElem? (i := 723) (by decide +kernel), List.mem_of_getElem? (i := 19) (by decide +kernel)⟩
theorem v_X4_76 : jvir RX4 76 4 mX4_isMissing 0 := ⟨cal_X4_isMissing, ⟨_, rfl, rfl⟩, List.mem_of_getElem? (i := 725) (by decide +kernel), List.mem_of_getElem? (i := 727) (by decide +kernel), List.mem_of_getElem? (i := 20) (by decide +kernel)⟩
theorem v_X0_161 : jvir RX0 161 4 mX4_endMatch 0 := ⟨cal_X4_endMatch, ⟨_, rfl, rfl⟩, List.mem_of_getElem? (i := 729) (by decide +kernel), List.mem_of_getElem? (i := 730) (by decide +kernel), List.mem_of_getElem? (i := 731) (by decide +kernel)⟩
theorem v_X6_156 : jvir RX6 156 1 mX1_writePrint 1 := ⟨cal_X1_writePrint, ⟨_, rfl, rfl⟩, List.mem_of_getElem? (i := 733) (by decide +kernel), List.mem_of_getElem? (i := 734) (by decide +kernel), List.mem_of_getElem? (i := 735) (by decide +kernel)⟩
theorem v_X1_28 : jvir RX1 28 3 mX3_empty 0 := ⟨cal_X3_empty, ⟨_, rfl, rfl⟩, List.mem_of_getElem? (i := 737) (by decide +kernel), List.mem_of_getElem? (i := 301) (by decide +kernel), List.mem_of_getElem? (i := 302) (by decide +kernel)⟩
theorem v_X1_31 : jvir RX1 31 2 mX2_segmentCount 0 := ⟨cal_X2_segmentCount, ⟨_, rfl, rfl⟩, List.mem_of_getElem? (i := 738) (by decide +kernel), List.mem_of_getElem? (i := 574) (by decide +kernel), List.mem_of_getElem? (i := 575) (by decide +kernel)⟩
theorem v_X1_36 : jvir RX1 36 2 mX2_tagOf 1 := ⟨cal_X2_tagOf, ⟨_, rfl, rfl⟩, List.mem_of_getElem? (i := 739) (by decide +kernel), List.mem_of_getElem? (i := 578) (by decide +kernel), List.mem_of_getElem? (i := 579) (by decide +kernel)⟩
theorem v_X1_39 : jvir RX1 39 1 mX1_putTag 1 := ⟨cal_X1_putTag, ⟨_, rfl, rfl⟩, List.mem_of_getElem? (i := 740) (by decide +kernel), List.mem_of_getElem? (i := 742) (by decide +kernel), List.mem_of_getElem? (i := 21) (by decide +kernel)⟩
theorem v_X1_48 : jvir RX1 48 3 mX3_add 1 := ⟨cal_X3_add, ⟨_, rfl, rfl⟩, List.mem_of_getElem? (i := 744) (by decide +kernel), List.mem_of_getElem? (i := 289) (by decide +kernel), List.mem_of_getElem? (i := 290) (by decide +kernel)⟩
theorem v_X1_42 : jvir RX1 42 2 mX2_filledElementEnd 1 := ⟨cal_X2_filledElementEnd, ⟨_, rfl, rfl⟩, List.mem_of_getElem? (i := 745) (by decide +kernel), List.mem_of_getElem? (i := 746) (by decide +kernel), List.mem_of_getElem? (i := 747) (by decide +kernel)⟩
theorem v_X2_60 : jvir RX2 60 2 mX2_filledEnd 1 := ⟨cal_X2_filledEnd, ⟨_, rfl, rfl⟩, List.mem_of_getElem? (i := 749) (by decide +kernel), List.mem_of_getElem? (i := 750) (by decide +kernel), List.mem_of_getElem? (i := 751) (by decide +kernel)⟩
theorem v_X1_45 : jvir RX1 45 2 mX2_firstElement 1 := ⟨cal_X2_firstElement, ⟨_, rfl, rfl⟩, List.mem_of_getElem? (i := 753) (by decide +kernel), List.mem_of_getElem? (i := 754) (by decide +kernel), List.mem_of_getElem? (i := 755) (by decide +kernel)⟩
theorem v_X1_51 : jvir RX1 51 1 mX1_putElement 2 := ⟨cal_X1_putElement, ⟨_, rfl, rfl⟩, List.mem_of_getElem? (i := 757) (by decide +kernel), List.mem_of_getElem? (i := 759) (by decide +kernel), List.mem_of_getElem? (i := 22) (by decide +kernel)⟩
theorem v_X1_96 : jvir RX1 96 2 mX2_firstComponent 1 := ⟨cal_X2_firstComponent, ⟨_, rfl, rfl⟩, List.mem_of_getElem? (i := 761) (by decide +kernel), List.mem_of_getElem? (i := 762) (by decide +kernel), List.mem_of_getElem? (i := 763) (by decide +kernel)⟩
theorem v_X1_99 : jvir RX1 99 2 mX2_filledEnd 1 := ⟨cal_X2_filledEnd, ⟨_, rfl, rfl⟩, List.mem_of_getElem? (i := 765) (by decide +kernel), List.mem_of_getElem? (i := 750) (by decide +kernel), List.mem_of_getElem? (i := 751) (by decide +kernel)⟩
theorem v_X1_93 : jvir RX1 93 1 mX1_putComponent 2 := ⟨cal_X1_putComponent, ⟨_, rfl, rfl⟩, List.mem_of_getElem? (i := 766) (by decide +kernel), List.mem_of_getElem? (i := 768) (by decide +kernel), List.mem_of_getElem? (i := 23) (by decide +kernel)⟩
theorem v_X1_102 : jvir RX1 102 2 mX2_widthOf 1 := ⟨cal_X2_widthOf, ⟨_, rfl, rfl⟩, List.mem_of_getElem? (i := 770) (by decide +kernel), List.mem_of_getElem? (i := 640) (by decide +kernel), List.mem_of_getElem? (i := 641) (by decide +kernel)⟩
theorem v_X1_105 : jvir RX1 105 2 mX2_characterOf 2 := ⟨cal_X2_characterOf, ⟨_, rfl, rfl⟩, List.mem_of_getElem? (i := 771) (by decide +kernel), List.mem_of_getElem? (i := 675) (by decide +kernel), List.mem_of_getElem? (i := 676) (by decide +kernel)⟩
theorem s_X1_108 : jsta RX1 108 mX1_isPrintMark 1 := ⟨cal_X1_isPrintMark, List.mem_of_getElem? (i := 772) (by decide +kernel), List.mem_of_getElem? (i := 773) (by decide +kernel)⟩
theorem v_X6_160 : jvir RX6 160 1 mX1_writeReport 1 := ⟨cal_X1_writeReport, ⟨_, rfl, rfl⟩, List.mem_of_getElem? (i := 775) (by decide +kernel), List.mem_of_getElem? (i := 776) (by decide +kernel), List.mem_of_getElem? (i := 777) (by decide +kernel)⟩
theorem v_X1_62 : jvir RX1 62 0 mX0_reference 0 := ⟨cal_X0_reference, ⟨_, rfl, rfl⟩, List.mem_of_getElem? (i := 780) (by decide +kernel), List.mem_of_getElem? (i := 620) (by decide +kernel), List.mem_of_getElem? (i := 621) (by decide +kernel)⟩
theorem v_X1_65 : jvir RX1 65 0 mX0_code 0 := ⟨cal_X0_code, ⟨_, rfl, rfl⟩, List.mem_of_getElem? (i := 781) (by decide +kernel), List.mem_of_getElem? (i := 782) (by decide +kernel), List.mem_of_getElem? (i := 783) (by decide +kernel)⟩
theorem v_X1_68 : jvir RX1 68 1 mX1_putVerdict 4 := ⟨cal_X1_putVerdict, ⟨_, rfl, rfl⟩, List.mem_of_getElem? (i := 785) (by decide +kernel), List.mem_of_getElem? (i := 787) (by decide +kernel), List.mem_of_getElem? (i := 24) (by decide +kernel)⟩
theorem v_X1_90 : jvir RX1 90 1 mX1_putNumber 1 := ⟨cal_X1_putNumber, ⟨_, rfl, rfl⟩, List.mem_of_getElem? (i := 789) (by decide +kernel), List.mem_of_getElem? (i := 791) (by decide +kernel), List.mem_of_getElem? (i := 25) (by decide +kernel)⟩
theorem v_X1_72 : jvir RX1 72 0 mX0_messageCount 0 := ⟨cal_X0_messageCount, ⟨_, rfl, rfl⟩, List.mem_of_getElem? (i := 793) (by decide +kernel), List.mem_of_getElem? (i := 667) (by decide +kernel), List.mem_of_getElem? (i := 668) (by decide +kernel)⟩
theorem v_X1_75 : jvir RX1 75 0 mX0_ofMessage 2 := ⟨cal_X0_ofMessage, ⟨_, rfl, rfl⟩, List.mem_of_getElem? (i := 794) (by decide +kernel), List.mem_of_getElem? (i := 795) (by decide +kernel), List.mem_of_getElem? (i := 796) (by decide +kernel)⟩
theorem v_X1_79 : jvir RX1 79 0 mX0_referenceOfGroup 1 := ⟨cal_X0_referenceOfGroup, ⟨_, rfl, rfl⟩, List.mem_of_getElem? (i := 798) (by decide +kernel), List.mem_of_getElem? (i := 658) (by decide +kernel), List.mem_of_getElem? (i := 659) (by decide +kernel)⟩
theorem v_X1_83 : jvir RX1 83 0 mX0_codeOfGroup 1 := ⟨cal_X0_codeOfGroup, ⟨_, rfl, rfl⟩, List.mem_of_getElem? (i := 800) (by decide +kernel), List.mem_of_getElem? (i := 801) (by decide +kernel), List.mem_of_getElem? (i := 802) (by decide +kernel)⟩
theorem v_X1_87 : jvir RX1 87 0 mX0_referenceOfMessage 1 := ⟨cal_X0_referenceOfMessage, ⟨_, rfl, rfl⟩, List.mem_of_getElem? (i := 805) (by decide +kernel), List.mem_of_getElem? (i := 684) (by decide +kernel), List.mem_of_getElem? (i := 685) (by decide +kernel)⟩
theorem s_L_102 : jstW RL 102 mL_interchange hL_interchange 3 := ⟨List.mem_of_getElem? (i := 808) (by decide +kernel), List.mem_of_getElem? (i := 58) (by decide +kernel), ⟨by decide +kernel, by decide +kernel⟩, by decide +kernel, by decide +kernel, by decide, List.mem_of_getElem? (i := 806) (by decide +kernel), List.mem_of_getElem? (i := 807) (by decide +kernel)⟩
theorem v_L_34 : jvir RL 34 6 mX6_interchange 1 := ⟨cal_X6_interchange, ⟨_, rfl, rfl⟩, List.mem_of_getElem? (i := 809) (by decide +kernel), List.mem_of_getElem? (i := 810) (by decide +kernel), List.mem_of_getElem? (i := 811) (by decide +kernel)⟩
theorem v_X6_164 : jvir RX6 164 6 mX6_needInterchange 0 := ⟨cal_X6_needInterchange, ⟨_, rfl, rfl⟩, List.mem_of_getElem? (i := 813) (by decide +kernel), List.mem_of_getElem? (i := 815) (by decide +kernel), List.mem_of_getElem? (i := 26) (by decide +kernel)⟩
theorem v_X6_167 : jvir RX6 167 2 mX2_segmentCount 0 := ⟨cal_X2_segmentCount, ⟨_, rfl, rfl⟩, List.mem_of_getElem? (i := 818) (by decide +kernel), List.mem_of_getElem? (i := 574) (by decide +kernel), List.mem_of_getElem? (i := 575) (by decide +kernel)⟩
theorem v_X6_172 : jvir RX6 172 0 mX0_groupCount 0 := ⟨cal_X0_groupCount, ⟨_, rfl, rfl⟩, List.mem_of_getElem? (i := 819) (by decide +kernel), List.mem_of_getElem? (i := 820) (by decide +kernel), List.mem_of_getElem? (i := 821) (by decide +kernel)⟩
theorem v_X6_175 : jvir RX6 175 0 mX0_code 0 := ⟨cal_X0_code, ⟨_, rfl, rfl⟩, List.mem_of_getElem? (i := 823) (by decide +kernel), List.mem_of_getElem? (i := 782) (by decide +kernel), List.mem_of_getElem? (i := 783) (by decide +kernel)⟩
theorem s_L_105 : jstW RL 105 mL_message hL_message 4 := ⟨List.mem_of_getElem? (i := 826) (by decide +kernel), List.mem_of_getElem? (i := 58) (by decide +kernel), ⟨by decide +kernel, by decide +kernel⟩, by decide +kernel, by decide +kernel, by decide, List.mem_of_getElem? (i := 824) (by decide +kernel), List.mem_of_getElem? (i := 825) (by decide +kernel)⟩
theorem v_L_38 : jvir RL 38 6 mX6_message 2 := ⟨cal_X6_message, ⟨_, rfl, rfl⟩, List.mem_of_getElem? (i := 827) (by decide +kernel), List.mem_of_getElem? (i := 828) (by decide +kernel), List.mem_of_getElem? (i := 829) (by decide +kernel)⟩
theorem v_X6_178 : jvir RX6 178 0 mX0_ofMessage 2 := ⟨cal_X0_ofMessage, ⟨_, rfl, rfl⟩, List.mem_of_getElem? (i := 831) (by decide +kernel), List.mem_of_getElem? (i := 795) (by decide +kernel), List.mem_of_getElem? (i := 796) (by decide +kernel)⟩
theorem s_L_109 : jstW RL 109 mL_group hL_group 3 := ⟨List.mem_of_getElem? (i := 834) (by decide +kernel), List.mem_of_getElem? (i := 58) (by decide +kernel), ⟨by decide +kernel, by decide +kernel⟩, by decide +kernel, by decide +kernel, by decide, List.mem_of_getElem? (i := 832) (by decide +kernel), List.mem_of_getElem? (i := 833) (by decide +kernel)⟩
theorem v_L_42 : jvir RL 42 6 mX6_group 1 := ⟨cal_X6_group, ⟨_, rfl, rfl⟩, List.mem_of_getElem? (i := 835) (by decide +kernel), List.mem_of_getElem? (i := 836) (by decide +kernel), List.mem_of_getElem? (i := 837) (by decide +kernel)⟩
theorem v_X6_182 : jvir RX6 182 0 mX0_codeOfGroup 1 := ⟨cal_X0_codeOfGroup, ⟨_, rfl, rfl⟩, List.mem_of_getElem? (i := 839) (by decide +kernel), List.mem_of_getElem? (i := 801) (by decide +kernel), List.mem_of_getElem? (i := 802) (by decide +kernel)⟩
theorem s_L_112 : jstW RL 112 mL_segment hL_segment 6 := ⟨List.mem_of_getElem? (i := 842) (by decide +kernel), List.mem_of_getElem? (i := 58) (by decide +kernel), ⟨by decide +kernel, by decide +kernel⟩, by decide +kernel, by decide +kernel, by decide, List.mem_of_getElem? (i := 840) (by decide +kernel), List.mem_of_getElem? (i := 841) (by decide +kernel)⟩
theorem v_L_45 : jvir RL 45 6 mX6_segment 4 := ⟨cal_X6_segment, ⟨_, rfl, rfl⟩, List.mem_of_getElem? (i := 843) (by decide +kernel), List.mem_of_getElem? (i := 844) (by decide +kernel), List.mem_of_getElem? (i := 845) (by decide +kernel)⟩
theorem v_X6_185 : jvir RX6 185 2 mX2_look 4 := ⟨cal_X2_look, ⟨_, rfl, rfl⟩, List.mem_of_getElem? (i := 847) (by decide +kernel), List.mem_of_getElem? (i := 848) (by decide +kernel), List.mem_of_getElem? (i := 849) (by decide +kernel)⟩
theorem v_X2_53 : jvir RX2 53 2 mX2_componentAt 3 := ⟨cal_X2_componentAt, ⟨_, rfl, rfl⟩, List.mem_of_getElem? (i := 851) (by decide +kernel), List.mem_of_getElem? (i := 624) (by decide +kernel), List.mem_of_getElem? (i := 625) (by decide +kernel)⟩
theorem v_X2_57 : jvir RX2 57 2 mX2_characterOf 2 := ⟨cal_X2_characterOf, ⟨_, rfl, rfl⟩, List.mem_of_getElem? (i := 852) (by decide +kernel), List.mem_of_getElem? (i := 675) (by decide +kernel), List.mem_of_getElem? (i := 676) (by decide +kernel)⟩
theorem s_L_116 : jstW RL 116 mL_print hL_print 3 := ⟨List.mem_of_getElem? (i := 855) (by decide +kernel), List.mem_of_getElem? (i := 58) (by decide +kernel), ⟨by decide +kernel, by decide +kernel⟩, by decide +kernel, by decide +kernel, by decide, List.mem_of_getElem? (i := 853) (by decide +kernel), List.mem_of_getElem? (i := 854) (by decide +kernel)⟩
theorem v_L_49 : jvir RL 49 6 mX6_print 1 := ⟨cal_X6_print, ⟨_, rfl, rfl⟩, List.mem_of_getElem? (i := 856) (by decide +kernel), List.mem_of_getElem? (i := 857) (by decide +kernel), List.mem_of_getElem? (i := 858) (by decide +kernel)⟩
theorem v_X6_189 : jvir RX6 189 1 mX1_look 1 := ⟨cal_X1_look, ⟨_, rfl, rfl⟩, List.mem_of_getElem? (i := 860) (by decide +kernel), List.mem_of_getElem? (i := 861) (by decide +kernel), List.mem_of_getElem? (i := 862) (by decide +kernel)⟩
theorem v_X1_20 : jvir RX1 20 3 mX3_size 0 := ⟨cal_X3_size, ⟨_, rfl, rfl⟩, List.mem_of_getElem? (i := 864) (by decide +kernel), List.mem_of_getElem? (i := 281) (by decide +kernel), List.mem_of_getElem? (i := 282) (by decide +kernel)⟩
theorem v_X1_24 : jvir RX1 24 3 mX3_at 1 := ⟨cal_X3_at, ⟨_, rfl, rfl⟩, List.mem_of_getElem? (i := 865) (by decide +kernel), List.mem_of_getElem? (i := 473) (by decide +kernel), List.mem_of_getElem? (i := 474) (by decide +kernel)⟩
theorem s_L_119 : jstW RL 119 mL_report hL_report 3 := ⟨List.mem_of_getElem? (i := 868) (by decide +kernel), List.mem_of_getElem? (i := 58) (by decide +kernel), ⟨by decide +kernel, by decide +kernel⟩, by decide +kernel, by decide +kernel, by decide, List.mem_of_getElem? (i := 866) (by decide +kernel), List.mem_of_getElem? (i := 867) (by decide +kernel)⟩
theorem v_L_52 : jvir RL 52 6 mX6_report 1 := ⟨cal_X6_report, ⟨_, rfl, rfl⟩, List.mem_of_getElem? (i := 869) (by decide +kernel), List.mem_of_getElem? (i := 870) (by decide +kernel), List.mem_of_getElem? (i := 871) (by decide +kernel)⟩
theorem i_L_58 : jini RL 58 mX7_init 0 := ⟨cal_X7_init, rfl, rfl, List.mem_of_getElem? (i := 875) (by decide +kernel), List.mem_of_getElem? (i := 876) (by decide +kernel)⟩
theorem v_L_80 : jvir RL 80 7 mX7_thrown 0 := ⟨cal_X7_thrown, ⟨_, rfl, rfl⟩, List.mem_of_getElem? (i := 1040) (by decide +kernel), List.mem_of_getElem? (i := 1041) (by decide +kernel), List.mem_of_getElem? (i := 1042) (by decide +kernel)⟩
theorem v_L_65 : jvir RL 65 7 mX7_type 1 := ⟨cal_X7_type, ⟨_, rfl, rfl⟩, List.mem_of_getElem? (i := 1044) (by decide +kernel), List.mem_of_getElem? (i := 1045) (by decide +kernel), List.mem_of_getElem? (i := 1046) (by decide +kernel)⟩
theorem v_L_69 : jvir RL 69 7 mX7_wipe 0 := ⟨cal_X7_wipe, ⟨_, rfl, rfl⟩, List.mem_of_getElem? (i := 1048) (by decide +kernel), List.mem_of_getElem? (i := 1049) (by decide +kernel), List.mem_of_getElem? (i := 1050) (by decide +kernel)⟩
theorem v_L_73 : jvir RL 73 7 mX7_length 0 := ⟨cal_X7_length, ⟨_, rfl, rfl⟩, List.mem_of_getElem? (i := 1052) (by decide +kernel), List.mem_of_getElem? (i := 1053) (by decide +kernel), List.mem_of_getElem? (i := 1054) (by decide +kernel)⟩
theorem v_L_79 : jvir RL 79 7 mX7_slot 4 := ⟨cal_X7_slot, ⟨_, rfl, rfl⟩, List.mem_of_getElem? (i := 1056) (by decide +kernel), List.mem_of_getElem? (i := 1057) (by decide +kernel), List.mem_of_getElem? (i := 1058) (by decide +kernel)⟩
theorem s_X7_122 : jsta RX7 122 mX7_isType 1 := ⟨cal_X7_isType, List.mem_of_getElem? (i := 1060) (by decide +kernel), List.mem_of_getElem? (i := 1061) (by decide +kernel)⟩
theorem s_X7_125 : jsta RX7 125 mX7_isTag 1 := ⟨cal_X7_isTag, List.mem_of_getElem? (i := 1063) (by decide +kernel), List.mem_of_getElem? (i := 1064) (by decide +kernel)⟩
theorem s_X7_108 : jsta RX7 108 mX7_isLetter 1 := ⟨cal_X7_isLetter, List.mem_of_getElem? (i := 1066) (by decide +kernel), List.mem_of_getElem? (i := 1067) (by decide +kernel)⟩
theorem s_X7_128 : jsta RX7 128 mX7_isEnvelope 1 := ⟨cal_X7_isEnvelope, List.mem_of_getElem? (i := 1069) (by decide +kernel), List.mem_of_getElem? (i := 1070) (by decide +kernel)⟩
theorem v_X7_131 : jvir RX7 131 7 mX7_isBare 1 := ⟨cal_X7_isBare, ⟨_, rfl, rfl⟩, List.mem_of_getElem? (i := 1078) (by decide +kernel), List.mem_of_getElem? (i := 1080) (by decide +kernel), List.mem_of_getElem? (i := 27) (by decide +kernel)⟩
theorem v_X7_118 : jvir RX7 118 7 mX7_following 3 := ⟨cal_X7_following, ⟨_, rfl, rfl⟩, List.mem_of_getElem? (i := 1082) (by decide +kernel), List.mem_of_getElem? (i := 1084) (by decide +kernel), List.mem_of_getElem? (i := 28) (by decide +kernel)⟩
theorem v_X7_134 : jvir RX7 134 7 mX7_add 4 := ⟨cal_X7_add, ⟨_, rfl, rfl⟩, List.mem_of_getElem? (i := 1086) (by decide +kernel), List.mem_of_getElem? (i := 1088) (by decide +kernel), List.mem_of_getElem? (i := 29) (by decide +kernel)⟩
theorem v_L_86 : jvir RL 86 7 mX7_open 3 := ⟨cal_X7_open, ⟨_, rfl, rfl⟩, List.mem_of_getElem? (i := 1090) (by decide +kernel), List.mem_of_getElem? (i := 1091) (by decide +kernel), List.mem_of_getElem? (i := 1092) (by decide +kernel)⟩
theorem v_X7_138 : jvir RX7 138 7 mX7_openGroups 1 := ⟨cal_X7_openGroups, ⟨_, rfl, rfl⟩, List.mem_of_getElem? (i := 1094) (by decide +kernel), List.mem_of_getElem? (i := 1096) (by decide +kernel), List.mem_of_getElem? (i := 30) (by decide +kernel)⟩
theorem v_L_90 : jvir RL 90 7 mX7_close 1 := ⟨cal_X7_close, ⟨_, rfl, rfl⟩, List.mem_of_getElem? (i := 1098) (by decide +kernel), List.mem_of_getElem? (i := 1099) (by decide +kernel), List.mem_of_getElem? (i := 1100) (by decide +kernel)⟩
theorem v_L_93 : jvir RL 93 7 mX7_clear 1 := ⟨cal_X7_clear, ⟨_, rfl, rfl⟩, List.mem_of_getElem? (i := 1102) (by decide +kernel), List.mem_of_getElem? (i := 1103) (by decide +kernel), List.mem_of_getElem? (i := 1104) (by decide +kernel)⟩
theorem v_L_97 : jvir RL 97 7 mX7_read 0 := ⟨cal_X7_read, ⟨_, rfl, rfl⟩, List.mem_of_getElem? (i := 1106) (by decide +kernel), List.mem_of_getElem? (i := 1107) (by decide +kernel), List.mem_of_getElem? (i := 1108) (by decide +kernel)⟩
theorem v_X7_243 : jvir RX7 243 7 mX7_scans 0 := ⟨cal_X7_scans, ⟨_, rfl, rfl⟩, List.mem_of_getElem? (i := 1110) (by decide +kernel), List.mem_of_getElem? (i := 1112) (by decide +kernel), List.mem_of_getElem? (i := 31) (by decide +kernel)⟩
theorem v_X7_179 : jvir RX7 179 7 mX7_marks 0 := ⟨cal_X7_marks, ⟨_, rfl, rfl⟩, List.mem_of_getElem? (i := 1114) (by decide +kernel), List.mem_of_getElem? (i := 1116) (by decide +kernel), List.mem_of_getElem? (i := 32) (by decide +kernel)⟩
theorem s_X7_154 : jsta RX7 154 mX7_canMark 1 := ⟨cal_X7_canMark, List.mem_of_getElem? (i := 1118) (by decide +kernel), List.mem_of_getElem? (i := 1119) (by decide +kernel)⟩
theorem v_X7_183 : jvir RX7 183 7 mX7_next 2 := ⟨cal_X7_next, ⟨_, rfl, rfl⟩, List.mem_of_getElem? (i := 1121) (by decide +kernel), List.mem_of_getElem? (i := 1123) (by decide +kernel), List.mem_of_getElem? (i := 33) (by decide +kernel)⟩
theorem v_X7_172 : jvir RX7 172 7 mX7_put 1 := ⟨cal_X7_put, ⟨_, rfl, rfl⟩, List.mem_of_getElem? (i := 1125) (by decide +kernel), List.mem_of_getElem? (i := 1127) (by decide +kernel), List.mem_of_getElem? (i := 34) (by decide +kernel)⟩
theorem v_X7_176 : jvir RX7 176 7 mX7_beginElement 0 := ⟨cal_X7_beginElement, ⟨_, rfl, rfl⟩, List.mem_of_getElem? (i := 1129) (by decide +kernel), List.mem_of_getElem? (i := 1131) (by decide +kernel), List.mem_of_getElem? (i := 35) (by decide +kernel)⟩
theorem v_X7_166 : jvir RX7 166 7 mX7_beginComponent 0 := ⟨cal_X7_beginComponent, ⟨_, rfl, rfl⟩, List.mem_of_getElem? (i := 1133) (by decide +kernel), List.mem_of_getElem? (i := 1135) (by decide +kernel), List.mem_of_getElem? (i := 36) (by decide +kernel)⟩
theorem v_X7_247 : jvir RX7 247 7 mX7_wraps 0 := ⟨cal_X7_wraps, ⟨_, rfl, rfl⟩, List.mem_of_getElem? (i := 1137) (by decide +kernel), List.mem_of_getElem? (i := 1139) (by decide +kernel), List.mem_of_getElem? (i := 37) (by decide +kernel)⟩
theorem v_X7_250 : jvir RX7 250 7 mX7_take 0 := ⟨cal_X7_take, ⟨_, rfl, rfl⟩, List.mem_of_getElem? (i := 1141) (by decide +kernel), List.mem_of_getElem? (i := 1143) (by decide +kernel), List.mem_of_getElem? (i := 38) (by decide +kernel)⟩
theorem v_X7_257 : jvir RX7 257 7 mX7_judge 1 := ⟨cal_X7_judge, ⟨_, rfl, rfl⟩, List.mem_of_getElem? (i := 1145) (by decide +kernel), List.mem_of_getElem? (i := 1147) (by decide +kernel), List.mem_of_getElem? (i := 39) (by decide +kernel)⟩
theorem v_X7_230 : jvir RX7 230 7 mX7_check 4 := ⟨cal_X7_check, ⟨_, rfl, rfl⟩, List.mem_of_getElem? (i := 1149) (by decide +kernel), List.mem_of_getElem? (i := 1151) (by decide +kernel), List.mem_of_getElem? (i := 40) (by decide +kernel)⟩
theorem v_X7_205 : jvir RX7 205 7 mX7_component 2 := ⟨cal_X7_component, ⟨_, rfl, rfl⟩, List.mem_of_getElem? (i := 1153) (by decide +kernel), List.mem_of_getElem? (i := 1155) (by decide +kernel), List.mem_of_getElem? (i := 41) (by decide +kernel)⟩
theorem v_X7_202 : jvir RX7 202 7 mX7_sizeOf 1 := ⟨cal_X7_sizeOf, ⟨_, rfl, rfl⟩, List.mem_of_getElem? (i := 1157) (by decide +kernel), List.mem_of_getElem? (i := 1159) (by decide +kernel), List.mem_of_getElem? (i := 42) (by decide +kernel)⟩
theorem v_X7_208 : jvir RX7 208 7 mX7_same 2 := ⟨cal_X7_same, ⟨_, rfl, rfl⟩, List.mem_of_getElem? (i := 1161) (by decide +kernel), List.mem_of_getElem? (i := 1163) (by decide +kernel), List.mem_of_getElem? (i := 43) (by decide +kernel)⟩
theorem v_X7_212 : jvir RX7 212 7 mX7_isNumber 2 := ⟨cal_X7_isNumber, ⟨_, rfl, rfl⟩, List.mem_of_getElem? (i := 1165) (by decide +kernel), List.mem_of_getElem? (i := 1167) (by decide +kernel), List.mem_of_getElem? (i := 44) (by decide +kernel)⟩
theorem v_X7_234 : jvir RX7 234 7 mX7_typeOf 1 := ⟨cal_X7_typeOf, ⟨_, rfl, rfl⟩, List.mem_of_getElem? (i := 1169) (by decide +kernel), List.mem_of_getElem? (i := 1171) (by decide +kernel), List.mem_of_getElem? (i := 45) (by decide +kernel)⟩
theorem v_X7_237 : jvir RX7 237 7 mX7_comes 2 := ⟨cal_X7_comes, ⟨_, rfl, rfl⟩, List.mem_of_getElem? (i := 1173) (by decide +kernel), List.mem_of_getElem? (i := 1175) (by decide +kernel), List.mem_of_getElem? (i := 46) (by decide +kernel)⟩
theorem v_X7_224 : jvir RX7 224 7 mX7_begins 2 := ⟨cal_X7_begins, ⟨_, rfl, rfl⟩, List.mem_of_getElem? (i := 1177) (by decide +kernel), List.mem_of_getElem? (i := 1179) (by decide +kernel), List.mem_of_getElem? (i := 47) (by decide +kernel)⟩
theorem v_X7_227 : jvir RX7 227 7 mX7_goOn 1 := ⟨cal_X7_goOn, ⟨_, rfl, rfl⟩, List.mem_of_getElem? (i := 1181) (by decide +kernel), List.mem_of_getElem? (i := 1183) (by decide +kernel), List.mem_of_getElem? (i := 48) (by decide +kernel)⟩
theorem v_X7_240 : jvir RX7 240 7 mX7_lacks 1 := ⟨cal_X7_lacks, ⟨_, rfl, rfl⟩, List.mem_of_getElem? (i := 1185) (by decide +kernel), List.mem_of_getElem? (i := 1187) (by decide +kernel), List.mem_of_getElem? (i := 49) (by decide +kernel)⟩
theorem v_X7_263 : jvir RX7 263 7 mX7_writePrint 0 := ⟨cal_X7_writePrint, ⟨_, rfl, rfl⟩, List.mem_of_getElem? (i := 1189) (by decide +kernel), List.mem_of_getElem? (i := 1191) (by decide +kernel), List.mem_of_getElem? (i := 50) (by decide +kernel)⟩
theorem v_X7_281 : jvir RX7 281 7 mX7_writeTag 1 := ⟨cal_X7_writeTag, ⟨_, rfl, rfl⟩, List.mem_of_getElem? (i := 1193) (by decide +kernel), List.mem_of_getElem? (i := 1195) (by decide +kernel), List.mem_of_getElem? (i := 51) (by decide +kernel)⟩
theorem v_X7_278 : jvir RX7 278 7 mX7_write 1 := ⟨cal_X7_write, ⟨_, rfl, rfl⟩, List.mem_of_getElem? (i := 1197) (by decide +kernel), List.mem_of_getElem? (i := 1199) (by decide +kernel), List.mem_of_getElem? (i := 52) (by decide +kernel)⟩
theorem v_X7_284 : jvir RX7 284 7 mX7_kept 1 := ⟨cal_X7_kept, ⟨_, rfl, rfl⟩, List.mem_of_getElem? (i := 1201) (by decide +kernel), List.mem_of_getElem? (i := 1203) (by decide +kernel), List.mem_of_getElem? (i := 53) (by decide +kernel)⟩
theorem v_X7_287 : jvir RX7 287 7 mX7_writeComponent 1 := ⟨cal_X7_writeComponent, ⟨_, rfl, rfl⟩, List.mem_of_getElem? (i := 1205) (by decide +kernel), List.mem_of_getElem? (i := 1207) (by decide +kernel), List.mem_of_getElem? (i := 54) (by decide +kernel)⟩
theorem v_X7_266 : jvir RX7 266 7 mX7_writeReport 0 := ⟨cal_X7_writeReport, ⟨_, rfl, rfl⟩, List.mem_of_getElem? (i := 1209) (by decide +kernel), List.mem_of_getElem? (i := 1211) (by decide +kernel), List.mem_of_getElem? (i := 55) (by decide +kernel)⟩
theorem v_X7_294 : jvir RX7 294 7 mX7_writeLine 4 := ⟨cal_X7_writeLine, ⟨_, rfl, rfl⟩, List.mem_of_getElem? (i := 1214) (by decide +kernel), List.mem_of_getElem? (i := 1216) (by decide +kernel), List.mem_of_getElem? (i := 56) (by decide +kernel)⟩
theorem v_X7_290 : jvir RX7 290 7 mX7_writeNumber 1 := ⟨cal_X7_writeNumber, ⟨_, rfl, rfl⟩, List.mem_of_getElem? (i := 1218) (by decide +kernel), List.mem_of_getElem? (i := 1220) (by decide +kernel), List.mem_of_getElem? (i := 57) (by decide +kernel)⟩
theorem v_L_101 : jvir RL 101 7 mX7_fault 0 := ⟨cal_X7_fault, ⟨_, rfl, rfl⟩, List.mem_of_getElem? (i := 1224) (by decide +kernel), List.mem_of_getElem? (i := 1225) (by decide +kernel), List.mem_of_getElem? (i := 1226) (by decide +kernel)⟩
theorem v_L_104 : jvir RL 104 7 mX7_interchange 1 := ⟨cal_X7_interchange, ⟨_, rfl, rfl⟩, List.mem_of_getElem? (i := 1228) (by decide +kernel), List.mem_of_getElem? (i := 1229) (by decide +kernel), List.mem_of_getElem? (i := 1230) (by decide +kernel)⟩
theorem v_L_108 : jvir RL 108 7 mX7_message 2 := ⟨cal_X7_message, ⟨_, rfl, rfl⟩, List.mem_of_getElem? (i := 1232) (by decide +kernel), List.mem_of_getElem? (i := 1233) (by decide +kernel), List.mem_of_getElem? (i := 1234) (by decide +kernel)⟩
theorem v_L_111 : jvir RL 111 7 mX7_group 1 := ⟨cal_X7_group, ⟨_, rfl, rfl⟩, List.mem_of_getElem? (i := 1236) (by decide +kernel), List.mem_of_getElem? (i := 1237) (by decide +kernel), List.mem_of_getElem? (i := 1238) (by decide +kernel)⟩
theorem v_L_115 : jvir RL 115 7 mX7_segment 4 := ⟨cal_X7_segment, ⟨_, rfl, rfl⟩, List.mem_of_getElem? (i := 1240) (by decide +kernel), List.mem_of_getElem? (i := 1241) (by decide +kernel), List.mem_of_getElem? (i := 1242) (by decide +kernel)⟩
theorem v_L_118 : jvir RL 118 7 mX7_print 1 := ⟨cal_X7_print, ⟨_, rfl, rfl⟩, List.mem_of_getElem? (i := 1244) (by decide +kernel), List.mem_of_getElem? (i := 1245) (by decide +kernel), List.mem_of_getElem? (i := 1246) (by decide +kernel)⟩
theorem v_L_121 : jvir RL 121 7 mX7_report 1 := ⟨cal_X7_report, ⟨_, rfl, rfl⟩, List.mem_of_getElem? (i := 1248) (by decide +kernel), List.mem_of_getElem? (i := 1249) (by decide +kernel), List.mem_of_getElem? (i := 1250) (by decide +kernel)⟩
/-! constants -/
theorem k_X6_196 : Cond.constant RX6 196 (Int32.ofInt 5590594) ∈ lw_tbl := List.mem_of_getElem? (i := 334) (by decide +kernel)
theorem k_X6_197 : Cond.constant RX6 197 (Int32.ofInt 5590618) ∈ lw_tbl := List.mem_of_getElem? (i := 335) (by decide +kernel)
theorem k_X6_198 : Cond.constant RX6 198 (Int32.ofInt 5590599) ∈ lw_tbl := List.mem_of_getElem? (i := 336) (by decide +kernel)
theorem k_X6_199 : Cond.constant RX6 199 (Int32.ofInt 5590597) ∈ lw_tbl := List.mem_of_getElem? (i := 337) (by decide +kernel)
theorem k_X6_200 : Cond.constant RX6 200 (Int32.ofInt 5590600) ∈ lw_tbl := List.mem_of_getElem? (i := 338) (by decide +kernel)
theorem k_X6_201 : Cond.constant RX6 201 (Int32.ofInt 5590612) ∈ lw_tbl := List.mem_of_getElem? (i := 339) (by decide +kernel)
theorem k_X0_69 : Cond.constant RX0 69 (Int32.ofInt 5590594) ∈ lw_tbl := List.mem_of_getElem? (i := 582) (by decide +kernel)
theorem k_X0_70 : Cond.constant RX0 70 (Int32.ofInt 5590618) ∈ lw_tbl := List.mem_of_getElem? (i := 583) (by decide +kernel)
theorem k_X0_71 : Cond.constant RX0 71 (Int32.ofInt 5590599) ∈ lw_tbl := List.mem_of_getElem? (i := 584) (by decide +kernel)
theorem k_X0_84 : Cond.constant RX0 84 (Int32.ofInt 5590600) ∈ lw_tbl := List.mem_of_getElem? (i := 590) (by decide +kernel)
theorem k_X0_92 : Cond.constant RX0 92 (Int32.ofInt 5590612) ∈ lw_tbl := List.mem_of_getElem? (i := 596) (by decide +kernel)
theorem k_X0_85 : Cond.constant RX0 85 (Int32.ofInt 5590597) ∈ lw_tbl := List.mem_of_getElem? (i := 598) (by decide +kernel)
theorem k_X1_61 : Cond.constant RX1 61 (Int32.ofInt 5587785) ∈ lw_tbl := List.mem_of_getElem? (i := 779) (by decide +kernel)
theorem k_X1_82 : Cond.constant RX1 82 (Int32.ofInt 5587782) ∈ lw_tbl := List.mem_of_getElem? (i := 799) (by decide +kernel)
theorem k_X1_86 : Cond.constant RX1 86 (Int32.ofInt 5587789) ∈ lw_tbl := List.mem_of_getElem? (i := 804) (by decide +kernel)
theorem k_X7_112 : Cond.constant RX7 112 (Int32.ofInt 5590594) ∈ lw_tbl := List.mem_of_getElem? (i := 1072) (by decide +kernel)
theorem k_X7_113 : Cond.constant RX7 113 (Int32.ofInt 5590618) ∈ lw_tbl := List.mem_of_getElem? (i := 1073) (by decide +kernel)
theorem k_X7_114 : Cond.constant RX7 114 (Int32.ofInt 5590599) ∈ lw_tbl := List.mem_of_getElem? (i := 1074) (by decide +kernel)
theorem k_X7_115 : Cond.constant RX7 115 (Int32.ofInt 5590597) ∈ lw_tbl := List.mem_of_getElem? (i := 1075) (by decide +kernel)
theorem k_X7_116 : Cond.constant RX7 116 (Int32.ofInt 5590600) ∈ lw_tbl := List.mem_of_getElem? (i := 1076) (by decide +kernel)
theorem k_X7_117 : Cond.constant RX7 117 (Int32.ofInt 5590612) ∈ lw_tbl := List.mem_of_getElem? (i := 1077) (by decide +kernel)
theorem k_X7_293 : Cond.constant RX7 293 (Int32.ofInt 5587785) ∈ lw_tbl := List.mem_of_getElem? (i := 1213) (by decide +kernel)
theorem k_X7_298 : Cond.constant RX7 298 (Int32.ofInt 5587782) ∈ lw_tbl := List.mem_of_getElem? (i := 1222) (by decide +kernel)
theorem k_X7_299 : Cond.constant RX7 299 (Int32.ofInt 5587789) ∈ lw_tbl := List.mem_of_getElem? (i := 1223) (by decide +kernel)
theorem k_L_59 : Cond.constantLong RL 59 4294967295 ∈ lw_tbl := List.mem_of_getElem? (i := 1252) (by decide +kernel)
/-! making -/
theorem n_L_8 : jnw RL 8 6 8 [.null, .null, .null, .null, .null, .null, .int 0, .int 0] := ⟨_, rfl, rfl, List.mem_of_getElem? (i := 74) (by decide +kernel), List.mem_of_getElem? (i := 75) (by decide +kernel), List.mem_of_getElem? (i := 59) (by decide +kernel), tyX6, tyX6_ok, by decide +kernel, fun L => by repeat (first | exact rfl | refine ⟨_, _, rfl, rfl, ?_⟩)⟩
theorem n_X6_9 : jnw RX6 9 5 6 [.null, .int 0, .int 0, .int 0, .int 0, .int 0] := ⟨_, rfl, rfl, List.mem_of_getElem? (i := 82) (by decide +kernel), List.mem_of_getElem? (i := 83) (by decide +kernel), List.mem_of_getElem? (i := 60) (by decide +kernel), tyX5, tyX5_ok, by decide +kernel, fun L => by repeat (first | exact rfl | refine ⟨_, _, rfl, rfl, ?_⟩)⟩
theorem n_X5_9 : jnw RX5 9 3 2 [.null, .int 0] := ⟨_, rfl, rfl, List.mem_of_getElem? (i := 88) (by decide +kernel), List.mem_of_getElem? (i := 89) (by decide +kernel), List.mem_of_getElem? (i := 61) (by decide +kernel), tyX3, tyX3_ok, by decide +kernel, fun L => by repeat (first | exact rfl | refine ⟨_, _, rfl, rfl, ?_⟩)⟩
theorem n_X6_16 : jnw RX6 16 4 9 [.null, .null, .null, .null, .int 0, .int 0, .null, .int 0, .int 0] := ⟨_, rfl, rfl, List.mem_of_getElem? (i := 124) (by decide +kernel), List.mem_of_getElem? (i := 209) (by decide +kernel), List.mem_of_getElem? (i := 66) (by decide +kernel), tyX4, tyX4_ok, by decide +kernel, fun L => by repeat (first | exact rfl | refine ⟨_, _, rfl, rfl, ?_⟩)⟩
theorem n_X6_22 : jnw RX6 22 1 1 [.null] := ⟨_, rfl, rfl, List.mem_of_getElem? (i := 126) (by decide +kernel), List.mem_of_getElem? (i := 127) (by decide +kernel), List.mem_of_getElem? (i := 63) (by decide +kernel), tyX1, tyX1_ok, by decide +kernel, fun L => by repeat (first | exact rfl | refine ⟨_, _, rfl, rfl, ?_⟩)⟩
theorem n_X1_9 : jnw RX1 9 3 2 [.null, .int 0] := ⟨_, rfl, rfl, List.mem_of_getElem? (i := 132) (by decide +kernel), List.mem_of_getElem? (i := 89) (by decide +kernel), List.mem_of_getElem? (i := 61) (by decide +kernel), tyX3, tyX3_ok, by decide +kernel, fun L => by repeat (first | exact rfl | refine ⟨_, _, rfl, rfl, ?_⟩)⟩
theorem n_X6_34 : jnw RX6 34 0 12 [.null, .null, .null, .null, .null, .null, .null, .null, .null, .null, .int 0, .int 0] := ⟨_, rfl, rfl, List.mem_of_getElem? (i := 138) (by decide +kernel), List.mem_of_getElem? (i := 139) (by decide +kernel), List.mem_of_getElem? (i := 64) (by decide +kernel), tyX0, tyX0_ok, by decide +kernel, fun L => by repeat (first | exact rfl | refine ⟨_, _, rfl, rfl, ?_⟩)⟩
theorem n_X0_9 : jnw RX0 9 2 5 [.null, .null, .null, .null, .null] := ⟨_, rfl, rfl, List.mem_of_getElem? (i := 144) (by decide +kernel), List.mem_of_getElem? (i := 145) (by decide +kernel), List.mem_of_getElem? (i := 65) (by decide +kernel), tyX2, tyX2_ok, by decide +kernel, fun L => by repeat (first | exact rfl | refine ⟨_, _, rfl, rfl, ?_⟩)⟩
theorem n_X2_9 : jnw RX2 9 3 2 [.null, .int 0] := ⟨_, rfl, rfl, List.mem_of_getElem? (i := 150) (by decide +kernel), List.mem_of_getElem? (i := 89) (by decide +kernel), List.mem_of_getElem? (i := 61) (by decide +kernel), tyX3, tyX3_ok, by decide +kernel, fun L => by repeat (first | exact rfl | refine ⟨_, _, rfl, rfl, ?_⟩)⟩
theorem n_X0_18 : jnw RX0 18 3 2 [.null, .int 0] := ⟨_, rfl, rfl, List.mem_of_getElem? (i := 168) (by decide +kernel), List.mem_of_getElem? (i := 89) (by decide +kernel), List.mem_of_getElem? (i := 61) (by decide +kernel), tyX3, tyX3_ok, by decide +kernel, fun L => by repeat (first | exact rfl | refine ⟨_, _, rfl, rfl, ?_⟩)⟩
theorem n_X4_9 : jnw RX4 9 3 2 [.null, .int 0] := ⟨_, rfl, rfl, List.mem_of_getElem? (i := 214) (by decide +kernel), List.mem_of_getElem? (i := 89) (by decide +kernel), List.mem_of_getElem? (i := 61) (by decide +kernel), tyX3, tyX3_ok, by decide +kernel, fun L => by repeat (first | exact rfl | refine ⟨_, _, rfl, rfl, ?_⟩)⟩
theorem n_L_56 : jnw RL 56 7 53 [.int 0, .int 0, .null, .null, .null, .null, .null, .null, .null, .int 0, .int 0, .int 0, .int 0, .int 0, .int 0, .null, .null, .int 0, .null, .int 0, .null, .int 0, .null, .int 0, .int 0, .null, .null, .int 0, .null, .int 0, .null, .null, .int 0, .int 0, .null, .null, .null, .null, .null, .int 0, .null, .null, .null, .int 0, .int 0, .int 0, .null, .null, .int 0, .null, .int 0, .null, .int 0] := ⟨_, rfl, rfl, List.mem_of_getElem? (i := 873) (by decide +kernel), List.mem_of_getElem? (i := 874) (by decide +kernel), List.mem_of_getElem? (i := 67) (by decide +kernel), tyX7, tyX7_ok, by decide +kernel, fun L => by repeat (first | exact rfl | refine ⟨_, _, rfl, rfl, ?_⟩)⟩
theorem t_X6_81_83 : jthr RX6 81 83 85 "java/lang/IllegalArgumentException" "no such type, tag or most" := jthr_of (by decide +kernel) (by decide +kernel) (by decide +kernel) (by decide +kernel) (by decide +kernel)
theorem t_X6_95_97 : jthr RX6 95 97 99 "java/lang/IllegalStateException" "the table is full, or a trigger is due" := jthr_of (by decide +kernel) (by decide +kernel) (by decide +kernel) (by decide +kernel) (by decide +kernel)
theorem t_X6_81_104 : jthr RX6 81 104 85 "java/lang/IllegalArgumentException" "no such type or most" := jthr_of (by decide +kernel) (by decide +kernel) (by decide +kernel) (by decide +kernel) (by decide +kernel)
theorem t_X6_95_109 : jthr RX6 95 109 99 "java/lang/IllegalStateException" "the table is full or deep, or a trigger is due" := jthr_of (by decide +kernel) (by decide +kernel) (by decide +kernel) (by decide +kernel) (by decide +kernel)
theorem t_X6_81_115 : jthr RX6 81 115 85 "java/lang/IllegalArgumentException" "no such type" := jthr_of (by decide +kernel) (by decide +kernel) (by decide +kernel) (by decide +kernel) (by decide +kernel)
theorem t_X6_81_132 : jthr RX6 81 132 85 "java/lang/IllegalArgumentException" "the text is not segments" := jthr_of (by decide +kernel) (by decide +kernel) (by decide +kernel) (by decide +kernel) (by decide +kernel)
theorem t_X6_137_139 : jthr RX6 137 139 141 "java/lang/UnsupportedOperationException" "the envelopes do not fit" := jthr_of (by decide +kernel) (by decide +kernel) (by decide +kernel) (by decide +kernel) (by decide +kernel)
theorem t_X6_95_191 : jthr RX6 95 191 99 "java/lang/IllegalStateException" "there is no interchange" := jthr_of (by decide +kernel) (by decide +kernel) (by decide +kernel) (by decide +kernel) (by decide +kernel)
