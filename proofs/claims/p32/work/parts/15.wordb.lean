set_option maxRecDepth 100000 in
theorem mi_X0_init : MI yX0_init cX0_init 2 none 0 := ⟨in_at 9 (by decide +kernel) (by decide +kernel), in_at 184 (by decide +kernel) (by decide +kernel), by decide, by decide, by decide +kernel⟩
set_option maxRecDepth 100000 in
theorem si_X0_init : Cond.instanceMethod yX0_init ∈ wAll := in_at 183 (by decide +kernel) (by decide +kernel)
set_option maxRecDepth 100000 in
theorem mi_X0_copyFrom : MI yX0_copyFrom cX0_copyFrom 3 none 1 := ⟨in_at 9 (by decide +kernel) (by decide +kernel), in_at 456 (by decide +kernel) (by decide +kernel), by decide, by decide, by decide +kernel⟩
set_option maxRecDepth 100000 in
theorem se_X0_copyFrom : Cond.selects yX0_copyFrom.cls yX0_copyFrom yX0_copyFrom ∈ wAll ∧ Cond.instanceMethod yX0_copyFrom ∈ wAll := ⟨in_at 455 (by decide +kernel) (by decide +kernel), in_at 454 (by decide +kernel) (by decide +kernel)⟩
set_option maxRecDepth 100000 in
theorem mi_X0_dueAt : MI yX0_dueAt cX0_dueAt 3 (some .int) 1 := ⟨in_at 9 (by decide +kernel) (by decide +kernel), in_at 515 (by decide +kernel) (by decide +kernel), by decide, by decide, by decide +kernel⟩
set_option maxRecDepth 100000 in
theorem se_X0_dueAt : Cond.selects yX0_dueAt.cls yX0_dueAt yX0_dueAt ∈ wAll ∧ Cond.instanceMethod yX0_dueAt ∈ wAll := ⟨in_at 514 (by decide +kernel) (by decide +kernel), in_at 513 (by decide +kernel) (by decide +kernel)⟩
set_option maxRecDepth 100000 in
theorem mi_X0_removeFirst : MI yX0_removeFirst cX0_removeFirst 3 none 0 := ⟨in_at 9 (by decide +kernel) (by decide +kernel), in_at 535 (by decide +kernel) (by decide +kernel), by decide, by decide, by decide +kernel⟩
set_option maxRecDepth 100000 in
theorem se_X0_removeFirst : Cond.selects yX0_removeFirst.cls yX0_removeFirst yX0_removeFirst ∈ wAll ∧ Cond.instanceMethod yX0_removeFirst ∈ wAll := ⟨in_at 534 (by decide +kernel) (by decide +kernel), in_at 533 (by decide +kernel) (by decide +kernel)⟩
set_option maxRecDepth 100000 in
theorem mi_X0_draft : MI yX0_draft cX0_draft 1 (some (.object "OutboxRelay$Message")) 0 := ⟨in_at 9 (by decide +kernel) (by decide +kernel), in_at 543 (by decide +kernel) (by decide +kernel), by decide, by decide, by decide +kernel⟩
set_option maxRecDepth 100000 in
theorem se_X0_draft : Cond.selects yX0_draft.cls yX0_draft yX0_draft ∈ wAll ∧ Cond.instanceMethod yX0_draft ∈ wAll := ⟨in_at 542 (by decide +kernel) (by decide +kernel), in_at 541 (by decide +kernel) (by decide +kernel)⟩
set_option maxRecDepth 100000 in
theorem mi_X0_postDraft : MI yX0_postDraft cX0_postDraft 5 none 2 := ⟨in_at 9 (by decide +kernel) (by decide +kernel), in_at 555 (by decide +kernel) (by decide +kernel), by decide, by decide, by decide +kernel⟩
set_option maxRecDepth 100000 in
theorem se_X0_postDraft : Cond.selects yX0_postDraft.cls yX0_postDraft yX0_postDraft ∈ wAll ∧ Cond.instanceMethod yX0_postDraft ∈ wAll := ⟨in_at 554 (by decide +kernel) (by decide +kernel), in_at 553 (by decide +kernel) (by decide +kernel)⟩
set_option maxRecDepth 100000 in
theorem mi_X0_onWayOf : MI yX0_onWayOf cX0_onWayOf 4 (some .int) 1 := ⟨in_at 9 (by decide +kernel) (by decide +kernel), in_at 617 (by decide +kernel) (by decide +kernel), by decide, by decide, by decide +kernel⟩
set_option maxRecDepth 100000 in
theorem se_X0_onWayOf : Cond.selects yX0_onWayOf.cls yX0_onWayOf yX0_onWayOf ∈ wAll ∧ Cond.instanceMethod yX0_onWayOf ∈ wAll := ⟨in_at 616 (by decide +kernel) (by decide +kernel), in_at 615 (by decide +kernel) (by decide +kernel)⟩
set_option maxRecDepth 100000 in
theorem mi_X1_init : MI yX1_init cX1_init 1 none 0 := ⟨in_at 10 (by decide +kernel) (by decide +kernel), in_at 191 (by decide +kernel) (by decide +kernel), by decide, by decide, by decide +kernel⟩
set_option maxRecDepth 100000 in
theorem si_X1_init : Cond.instanceMethod yX1_init ∈ wAll := in_at 190 (by decide +kernel) (by decide +kernel)
set_option maxRecDepth 100000 in
theorem mi_X1_copyFrom : MI yX1_copyFrom cX1_copyFrom 2 none 1 := ⟨in_at 10 (by decide +kernel) (by decide +kernel), in_at 460 (by decide +kernel) (by decide +kernel), by decide, by decide, by decide +kernel⟩
set_option maxRecDepth 100000 in
theorem se_X1_copyFrom : Cond.selects yX1_copyFrom.cls yX1_copyFrom yX1_copyFrom ∈ wAll ∧ Cond.instanceMethod yX1_copyFrom ∈ wAll := ⟨in_at 459 (by decide +kernel) (by decide +kernel), in_at 458 (by decide +kernel) (by decide +kernel)⟩
set_option maxRecDepth 100000 in
theorem mi_X1_becomeBatch : MI yX1_becomeBatch cX1_becomeBatch 2 none 1 := ⟨in_at 10 (by decide +kernel) (by decide +kernel), in_at 563 (by decide +kernel) (by decide +kernel), by decide, by decide, by decide +kernel⟩
set_option maxRecDepth 100000 in
theorem se_X1_becomeBatch : Cond.selects yX1_becomeBatch.cls yX1_becomeBatch yX1_becomeBatch ∈ wAll ∧ Cond.instanceMethod yX1_becomeBatch ∈ wAll := ⟨in_at 562 (by decide +kernel) (by decide +kernel), in_at 561 (by decide +kernel) (by decide +kernel)⟩
set_option maxRecDepth 100000 in
theorem mi_X1_becomeAnswer : MI yX1_becomeAnswer cX1_becomeAnswer 3 none 2 := ⟨in_at 10 (by decide +kernel) (by decide +kernel), in_at 547 (by decide +kernel) (by decide +kernel), by decide, by decide, by decide +kernel⟩
set_option maxRecDepth 100000 in
theorem se_X1_becomeAnswer : Cond.selects yX1_becomeAnswer.cls yX1_becomeAnswer yX1_becomeAnswer ∈ wAll ∧ Cond.instanceMethod yX1_becomeAnswer ∈ wAll := ⟨in_at 546 (by decide +kernel) (by decide +kernel), in_at 545 (by decide +kernel) (by decide +kernel)⟩
set_option maxRecDepth 100000 in
theorem mi_X1_addRow : MI yX1_addRow cX1_addRow 3 none 2 := ⟨in_at 10 (by decide +kernel) (by decide +kernel), in_at 567 (by decide +kernel) (by decide +kernel), by decide, by decide, by decide +kernel⟩
set_option maxRecDepth 100000 in
theorem se_X1_addRow : Cond.selects yX1_addRow.cls yX1_addRow yX1_addRow ∈ wAll ∧ Cond.instanceMethod yX1_addRow ∈ wAll := ⟨in_at 566 (by decide +kernel) (by decide +kernel), in_at 565 (by decide +kernel) (by decide +kernel)⟩
set_option maxRecDepth 100000 in
theorem mi_X1_tell : MI yX1_tell cX1_tell 3 (some .int) 2 := ⟨in_at 10 (by decide +kernel) (by decide +kernel), in_at 639 (by decide +kernel) (by decide +kernel), by decide, by decide, by decide +kernel⟩
set_option maxRecDepth 100000 in
theorem se_X1_tell : Cond.selects yX1_tell.cls yX1_tell yX1_tell ∈ wAll ∧ Cond.instanceMethod yX1_tell ∈ wAll := ⟨in_at 638 (by decide +kernel) (by decide +kernel), in_at 637 (by decide +kernel) (by decide +kernel)⟩
set_option maxRecDepth 100000 in
theorem mi_X2_init : MI yX2_init cX2_init 1 none 0 := ⟨in_at 11 (by decide +kernel) (by decide +kernel), in_at 285 (by decide +kernel) (by decide +kernel), by decide, by decide, by decide +kernel⟩
set_option maxRecDepth 100000 in
theorem si_X2_init : Cond.instanceMethod yX2_init ∈ wAll := in_at 284 (by decide +kernel) (by decide +kernel)
set_option maxRecDepth 100000 in
theorem mi_X3_init : MI yX3_init cX3_init 1 none 0 := ⟨in_at 8 (by decide +kernel) (by decide +kernel), in_at 126 (by decide +kernel) (by decide +kernel), by decide, by decide, by decide +kernel⟩
set_option maxRecDepth 100000 in
theorem si_X3_init : Cond.instanceMethod yX3_init ∈ wAll := in_at 125 (by decide +kernel) (by decide +kernel)
set_option maxRecDepth 100000 in
theorem mi_X3_copyFrom : MI yX3_copyFrom cX3_copyFrom 2 none 1 := ⟨in_at 8 (by decide +kernel) (by decide +kernel), in_at 451 (by decide +kernel) (by decide +kernel), by decide, by decide, by decide +kernel⟩
set_option maxRecDepth 100000 in
theorem se_X3_copyFrom : Cond.selects yX3_copyFrom.cls yX3_copyFrom yX3_copyFrom ∈ wAll ∧ Cond.instanceMethod yX3_copyFrom ∈ wAll := ⟨in_at 450 (by decide +kernel) (by decide +kernel), in_at 449 (by decide +kernel) (by decide +kernel)⟩
set_option maxRecDepth 100000 in
theorem mi_X3_wants : MI yX3_wants cX3_wants 2 (some .boolean) 1 := ⟨in_at 8 (by decide +kernel) (by decide +kernel), in_at 507 (by decide +kernel) (by decide +kernel), by decide, by decide, by decide +kernel⟩
set_option maxRecDepth 100000 in
theorem se_X3_wants : Cond.selects yX3_wants.cls yX3_wants yX3_wants ∈ wAll ∧ Cond.instanceMethod yX3_wants ∈ wAll := ⟨in_at 506 (by decide +kernel) (by decide +kernel), in_at 505 (by decide +kernel) (by decide +kernel)⟩
set_option maxRecDepth 100000 in
theorem mi_X3_isRepeat : MI yX3_isRepeat cX3_isRepeat 4 (some .boolean) 2 := ⟨in_at 8 (by decide +kernel) (by decide +kernel), in_at 527 (by decide +kernel) (by decide +kernel), by decide, by decide, by decide +kernel⟩
set_option maxRecDepth 100000 in
theorem se_X3_isRepeat : Cond.selects yX3_isRepeat.cls yX3_isRepeat yX3_isRepeat ∈ wAll ∧ Cond.instanceMethod yX3_isRepeat ∈ wAll := ⟨in_at 526 (by decide +kernel) (by decide +kernel), in_at 525 (by decide +kernel) (by decide +kernel)⟩
set_option maxRecDepth 100000 in
theorem mi_X3_takeEffect : MI yX3_takeEffect cX3_takeEffect 5 none 3 := ⟨in_at 8 (by decide +kernel) (by decide +kernel), in_at 531 (by decide +kernel) (by decide +kernel), by decide, by decide, by decide +kernel⟩
set_option maxRecDepth 100000 in
theorem se_X3_takeEffect : Cond.selects yX3_takeEffect.cls yX3_takeEffect yX3_takeEffect ∈ wAll ∧ Cond.instanceMethod yX3_takeEffect ∈ wAll := ⟨in_at 530 (by decide +kernel) (by decide +kernel), in_at 529 (by decide +kernel) (by decide +kernel)⟩
set_option maxRecDepth 100000 in
theorem mi_X3_answerComes : MI yX3_answerComes cX3_answerComes 2 none 1 := ⟨in_at 8 (by decide +kernel) (by decide +kernel), in_at 539 (by decide +kernel) (by decide +kernel), by decide, by decide, by decide +kernel⟩
set_option maxRecDepth 100000 in
theorem se_X3_answerComes : Cond.selects yX3_answerComes.cls yX3_answerComes yX3_answerComes ∈ wAll ∧ Cond.instanceMethod yX3_answerComes ∈ wAll := ⟨in_at 538 (by decide +kernel) (by decide +kernel), in_at 537 (by decide +kernel) (by decide +kernel)⟩
set_option maxRecDepth 100000 in
theorem mi_X3_tell : MI yX3_tell cX3_tell 2 (some .int) 1 := ⟨in_at 8 (by decide +kernel) (by decide +kernel), in_at 621 (by decide +kernel) (by decide +kernel), by decide, by decide, by decide +kernel⟩
set_option maxRecDepth 100000 in
theorem se_X3_tell : Cond.selects yX3_tell.cls yX3_tell yX3_tell ∈ wAll ∧ Cond.instanceMethod yX3_tell ∈ wAll := ⟨in_at 620 (by decide +kernel) (by decide +kernel), in_at 619 (by decide +kernel) (by decide +kernel)⟩
set_option maxRecDepth 100000 in
theorem mi_X4_init : MI yX4_init cX4_init 1 none 0 := ⟨in_at 7 (by decide +kernel) (by decide +kernel), in_at 75 (by decide +kernel) (by decide +kernel), by decide, by decide, by decide +kernel⟩
set_option maxRecDepth 100000 in
theorem si_X4_init : Cond.instanceMethod yX4_init ∈ wAll := in_at 74 (by decide +kernel) (by decide +kernel)
set_option maxRecDepth 100000 in
theorem mi_X4_copyFrom : MI yX4_copyFrom cX4_copyFrom 2 none 1 := ⟨in_at 7 (by decide +kernel) (by decide +kernel), in_at 446 (by decide +kernel) (by decide +kernel), by decide, by decide, by decide +kernel⟩
set_option maxRecDepth 100000 in
theorem se_X4_copyFrom : Cond.selects yX4_copyFrom.cls yX4_copyFrom yX4_copyFrom ∈ wAll ∧ Cond.instanceMethod yX4_copyFrom ∈ wAll := ⟨in_at 445 (by decide +kernel) (by decide +kernel), in_at 444 (by decide +kernel) (by decide +kernel)⟩
set_option maxRecDepth 100000 in
theorem mi_X4_addRow : MI yX4_addRow cX4_addRow 6 none 4 := ⟨in_at 7 (by decide +kernel) (by decide +kernel), in_at 708 (by decide +kernel) (by decide +kernel), by decide, by decide, by decide +kernel⟩
set_option maxRecDepth 100000 in
theorem se_X4_addRow : Cond.selects yX4_addRow.cls yX4_addRow yX4_addRow ∈ wAll ∧ Cond.instanceMethod yX4_addRow ∈ wAll := ⟨in_at 707 (by decide +kernel) (by decide +kernel), in_at 706 (by decide +kernel) (by decide +kernel)⟩
set_option maxRecDepth 100000 in
theorem mi_X5_init : MI yX5_init cX5_init 2 none 0 := ⟨in_at 5 (by decide +kernel) (by decide +kernel), in_at 31 (by decide +kernel) (by decide +kernel), by decide, by decide, by decide +kernel⟩
set_option maxRecDepth 100000 in
theorem si_X5_init : Cond.instanceMethod yX5_init ∈ wAll := in_at 30 (by decide +kernel) (by decide +kernel)
set_option maxRecDepth 100000 in
theorem mi_X5_copyFrom : MI yX5_copyFrom cX5_copyFrom 3 none 1 := ⟨in_at 5 (by decide +kernel) (by decide +kernel), in_at 434 (by decide +kernel) (by decide +kernel), by decide, by decide, by decide +kernel⟩
set_option maxRecDepth 100000 in
theorem se_X5_copyFrom : Cond.selects yX5_copyFrom.cls yX5_copyFrom yX5_copyFrom ∈ wAll ∧ Cond.instanceMethod yX5_copyFrom ∈ wAll := ⟨in_at 433 (by decide +kernel) (by decide +kernel), in_at 432 (by decide +kernel) (by decide +kernel)⟩
set_option maxRecDepth 100000 in
theorem mi_X5_freePlace : MI yX5_freePlace cX5_freePlace 2 (some .int) 0 := ⟨in_at 5 (by decide +kernel) (by decide +kernel), in_at 650 (by decide +kernel) (by decide +kernel), by decide, by decide, by decide +kernel⟩
set_option maxRecDepth 100000 in
theorem se_X5_freePlace : Cond.selects yX5_freePlace.cls yX5_freePlace yX5_freePlace ∈ wAll ∧ Cond.instanceMethod yX5_freePlace ∈ wAll := ⟨in_at 649 (by decide +kernel) (by decide +kernel), in_at 648 (by decide +kernel) (by decide +kernel)⟩
set_option maxRecDepth 100000 in
theorem mi_X5_isOpen : MI yX5_isOpen cX5_isOpen 2 (some .boolean) 1 := ⟨in_at 5 (by decide +kernel) (by decide +kernel), in_at 669 (by decide +kernel) (by decide +kernel), by decide, by decide, by decide +kernel⟩
set_option maxRecDepth 100000 in
theorem se_X5_isOpen : Cond.selects yX5_isOpen.cls yX5_isOpen yX5_isOpen ∈ wAll ∧ Cond.instanceMethod yX5_isOpen ∈ wAll := ⟨in_at 668 (by decide +kernel) (by decide +kernel), in_at 667 (by decide +kernel) (by decide +kernel)⟩
set_option maxRecDepth 100000 in
theorem mi_X5_hasRoomToWrite : MI yX5_hasRoomToWrite cX5_hasRoomToWrite 2 (some .boolean) 1 := ⟨in_at 5 (by decide +kernel) (by decide +kernel), in_at 680 (by decide +kernel) (by decide +kernel), by decide, by decide, by decide +kernel⟩
set_option maxRecDepth 100000 in
theorem se_X5_hasRoomToWrite : Cond.selects yX5_hasRoomToWrite.cls yX5_hasRoomToWrite yX5_hasRoomToWrite ∈ wAll ∧ Cond.instanceMethod yX5_hasRoomToWrite ∈ wAll := ⟨in_at 679 (by decide +kernel) (by decide +kernel), in_at 678 (by decide +kernel) (by decide +kernel)⟩
set_option maxRecDepth 100000 in
theorem mi_X5_hasRoomToCommit : MI yX5_hasRoomToCommit cX5_hasRoomToCommit 3 (some .boolean) 1 := ⟨in_at 5 (by decide +kernel) (by decide +kernel), in_at 698 (by decide +kernel) (by decide +kernel), by decide, by decide, by decide +kernel⟩
set_option maxRecDepth 100000 in
theorem se_X5_hasRoomToCommit : Cond.selects yX5_hasRoomToCommit.cls yX5_hasRoomToCommit yX5_hasRoomToCommit ∈ wAll ∧ Cond.instanceMethod yX5_hasRoomToCommit ∈ wAll := ⟨in_at 697 (by decide +kernel) (by decide +kernel), in_at 696 (by decide +kernel) (by decide +kernel)⟩
set_option maxRecDepth 100000 in
theorem mi_X5_openAt : MI yX5_openAt cX5_openAt 2 (some .boolean) 1 := ⟨in_at 5 (by decide +kernel) (by decide +kernel), in_at 655 (by decide +kernel) (by decide +kernel), by decide, by decide, by decide +kernel⟩
set_option maxRecDepth 100000 in
theorem se_X5_openAt : Cond.selects yX5_openAt.cls yX5_openAt yX5_openAt ∈ wAll ∧ Cond.instanceMethod yX5_openAt ∈ wAll := ⟨in_at 654 (by decide +kernel) (by decide +kernel), in_at 653 (by decide +kernel) (by decide +kernel)⟩
set_option maxRecDepth 100000 in
theorem mi_X5_writeAt : MI yX5_writeAt cX5_writeAt 4 (some .int) 3 := ⟨in_at 5 (by decide +kernel) (by decide +kernel), in_at 685 (by decide +kernel) (by decide +kernel), by decide, by decide, by decide +kernel⟩
set_option maxRecDepth 100000 in
theorem se_X5_writeAt : Cond.selects yX5_writeAt.cls yX5_writeAt yX5_writeAt ∈ wAll ∧ Cond.instanceMethod yX5_writeAt ∈ wAll := ⟨in_at 684 (by decide +kernel) (by decide +kernel), in_at 683 (by decide +kernel) (by decide +kernel)⟩
set_option maxRecDepth 100000 in
theorem mi_X5_commitAt : MI yX5_commitAt cX5_commitAt 7 none 1 := ⟨in_at 5 (by decide +kernel) (by decide +kernel), in_at 703 (by decide +kernel) (by decide +kernel), by decide, by decide, by decide +kernel⟩
set_option maxRecDepth 100000 in
theorem se_X5_commitAt : Cond.selects yX5_commitAt.cls yX5_commitAt yX5_commitAt ∈ wAll ∧ Cond.instanceMethod yX5_commitAt ∈ wAll := ⟨in_at 702 (by decide +kernel) (by decide +kernel), in_at 701 (by decide +kernel) (by decide +kernel)⟩
set_option maxRecDepth 100000 in
theorem mi_X5_dropAt : MI yX5_dropAt cX5_dropAt 2 (some .int) 1 := ⟨in_at 5 (by decide +kernel) (by decide +kernel), in_at 716 (by decide +kernel) (by decide +kernel), by decide, by decide, by decide +kernel⟩
set_option maxRecDepth 100000 in
theorem se_X5_dropAt : Cond.selects yX5_dropAt.cls yX5_dropAt yX5_dropAt ∈ wAll ∧ Cond.instanceMethod yX5_dropAt ∈ wAll := ⟨in_at 715 (by decide +kernel) (by decide +kernel), in_at 714 (by decide +kernel) (by decide +kernel)⟩
set_option maxRecDepth 100000 in
theorem mi_X5_passTicks : MI yX5_passTicks cX5_passTicks 4 (some .int) 1 := ⟨in_at 5 (by decide +kernel) (by decide +kernel), in_at 760 (by decide +kernel) (by decide +kernel), by decide, by decide, by decide +kernel⟩
set_option maxRecDepth 100000 in
theorem se_X5_passTicks : Cond.selects yX5_passTicks.cls yX5_passTicks yX5_passTicks ∈ wAll ∧ Cond.instanceMethod yX5_passTicks ∈ wAll := ⟨in_at 759 (by decide +kernel) (by decide +kernel), in_at 758 (by decide +kernel) (by decide +kernel)⟩
set_option maxRecDepth 100000 in
theorem mi_X5_passTick : MI yX5_passTick cX5_passTick 4 (some .int) 0 := ⟨in_at 5 (by decide +kernel) (by decide +kernel), in_at 511 (by decide +kernel) (by decide +kernel), by decide, by decide, by decide +kernel⟩
set_option maxRecDepth 100000 in
theorem se_X5_passTick : Cond.selects yX5_passTick.cls yX5_passTick yX5_passTick ∈ wAll ∧ Cond.instanceMethod yX5_passTick ∈ wAll := ⟨in_at 510 (by decide +kernel) (by decide +kernel), in_at 509 (by decide +kernel) (by decide +kernel)⟩
set_option maxRecDepth 100000 in
theorem mi_X5_firstComes : MI yX5_firstComes cX5_firstComes 6 (some .int) 0 := ⟨in_at 5 (by decide +kernel) (by decide +kernel), in_at 519 (by decide +kernel) (by decide +kernel), by decide, by decide, by decide +kernel⟩
set_option maxRecDepth 100000 in
theorem se_X5_firstComes : Cond.selects yX5_firstComes.cls yX5_firstComes yX5_firstComes ∈ wAll ∧ Cond.instanceMethod yX5_firstComes ∈ wAll := ⟨in_at 518 (by decide +kernel) (by decide +kernel), in_at 517 (by decide +kernel) (by decide +kernel)⟩
set_option maxRecDepth 100000 in
theorem mi_X5_rowComes : MI yX5_rowComes cX5_rowComes 6 (some .int) 2 := ⟨in_at 5 (by decide +kernel) (by decide +kernel), in_at 523 (by decide +kernel) (by decide +kernel), by decide, by decide, by decide +kernel⟩
set_option maxRecDepth 100000 in
theorem se_X5_rowComes : Cond.selects yX5_rowComes.cls yX5_rowComes yX5_rowComes ∈ wAll ∧ Cond.instanceMethod yX5_rowComes ∈ wAll := ⟨in_at 522 (by decide +kernel) (by decide +kernel), in_at 521 (by decide +kernel) (by decide +kernel)⟩
set_option maxRecDepth 100000 in
theorem mi_X5_sendBatch : MI yX5_sendBatch cX5_sendBatch 6 none 1 := ⟨in_at 5 (by decide +kernel) (by decide +kernel), in_at 559 (by decide +kernel) (by decide +kernel), by decide, by decide, by decide +kernel⟩
set_option maxRecDepth 100000 in
theorem se_X5_sendBatch : Cond.selects yX5_sendBatch.cls yX5_sendBatch yX5_sendBatch ∈ wAll ∧ Cond.instanceMethod yX5_sendBatch ∈ wAll := ⟨in_at 558 (by decide +kernel) (by decide +kernel), in_at 557 (by decide +kernel) (by decide +kernel)⟩
set_option maxRecDepth 100000 in
theorem mi_X5_post : MI yX5_post cX5_post 1 none 0 := ⟨in_at 5 (by decide +kernel) (by decide +kernel), in_at 551 (by decide +kernel) (by decide +kernel), by decide, by decide, by decide +kernel⟩
set_option maxRecDepth 100000 in
theorem se_X5_post : Cond.selects yX5_post.cls yX5_post yX5_post ∈ wAll ∧ Cond.instanceMethod yX5_post ∈ wAll := ⟨in_at 550 (by decide +kernel) (by decide +kernel), in_at 549 (by decide +kernel) (by decide +kernel)⟩
set_option maxRecDepth 100000 in
theorem mi_X5_isFor : MI yX5_isFor cX5_isFor 3 (some .boolean) 2 := ⟨in_at 5 (by decide +kernel) (by decide +kernel), in_at 503 (by decide +kernel) (by decide +kernel), by decide, by decide, by decide +kernel⟩
set_option maxRecDepth 100000 in
theorem se_X5_isFor : Cond.selects yX5_isFor.cls yX5_isFor yX5_isFor ∈ wAll ∧ Cond.instanceMethod yX5_isFor ∈ wAll := ⟨in_at 502 (by decide +kernel) (by decide +kernel), in_at 501 (by decide +kernel) (by decide +kernel)⟩
set_option maxRecDepth 100000 in
theorem mi_X5_rowsFor : MI yX5_rowsFor cX5_rowsFor 4 (some .int) 1 := ⟨in_at 5 (by decide +kernel) (by decide +kernel), in_at 575 (by decide +kernel) (by decide +kernel), by decide, by decide, by decide +kernel⟩
set_option maxRecDepth 100000 in
theorem se_X5_rowsFor : Cond.selects yX5_rowsFor.cls yX5_rowsFor yX5_rowsFor ∈ wAll ∧ Cond.instanceMethod yX5_rowsFor ∈ wAll := ⟨in_at 574 (by decide +kernel) (by decide +kernel), in_at 573 (by decide +kernel) (by decide +kernel)⟩
set_option maxRecDepth 100000 in
theorem mi_X5_answeredBy : MI yX5_answeredBy cX5_answeredBy 4 (some .int) 1 := ⟨in_at 5 (by decide +kernel) (by decide +kernel), in_at 499 (by decide +kernel) (by decide +kernel), by decide, by decide, by decide +kernel⟩
set_option maxRecDepth 100000 in
theorem se_X5_answeredBy : Cond.selects yX5_answeredBy.cls yX5_answeredBy yX5_answeredBy ∈ wAll ∧ Cond.instanceMethod yX5_answeredBy ∈ wAll := ⟨in_at 498 (by decide +kernel) (by decide +kernel), in_at 497 (by decide +kernel) (by decide +kernel)⟩
set_option maxRecDepth 100000 in
theorem mi_X5_sweepRows : MI yX5_sweepRows cX5_sweepRows 5 (some .int) 0 := ⟨in_at 5 (by decide +kernel) (by decide +kernel), in_at 738 (by decide +kernel) (by decide +kernel), by decide, by decide, by decide +kernel⟩
set_option maxRecDepth 100000 in
theorem se_X5_sweepRows : Cond.selects yX5_sweepRows.cls yX5_sweepRows yX5_sweepRows ∈ wAll ∧ Cond.instanceMethod yX5_sweepRows ∈ wAll := ⟨in_at 737 (by decide +kernel) (by decide +kernel), in_at 736 (by decide +kernel) (by decide +kernel)⟩
set_option maxRecDepth 100000 in
theorem mi_X5_loseUnseen : MI yX5_loseUnseen cX5_loseUnseen 4 none 1 := ⟨in_at 5 (by decide +kernel) (by decide +kernel), in_at 742 (by decide +kernel) (by decide +kernel), by decide, by decide, by decide +kernel⟩
set_option maxRecDepth 100000 in
theorem se_X5_loseUnseen : Cond.selects yX5_loseUnseen.cls yX5_loseUnseen yX5_loseUnseen ∈ wAll ∧ Cond.instanceMethod yX5_loseUnseen ∈ wAll := ⟨in_at 741 (by decide +kernel) (by decide +kernel), in_at 740 (by decide +kernel) (by decide +kernel)⟩
set_option maxRecDepth 100000 in
theorem mi_X5_isDrained : MI yX5_isDrained cX5_isDrained 2 (some .boolean) 0 := ⟨in_at 5 (by decide +kernel) (by decide +kernel), in_at 495 (by decide +kernel) (by decide +kernel), by decide, by decide, by decide +kernel⟩
set_option maxRecDepth 100000 in
theorem se_X5_isDrained : Cond.selects yX5_isDrained.cls yX5_isDrained yX5_isDrained ∈ wAll ∧ Cond.instanceMethod yX5_isDrained ∈ wAll := ⟨in_at 494 (by decide +kernel) (by decide +kernel), in_at 493 (by decide +kernel) (by decide +kernel)⟩
set_option maxRecDepth 100000 in
theorem mi_X5_rowNumber : MI yX5_rowNumber cX5_rowNumber 3 (some .int) 2 := ⟨in_at 5 (by decide +kernel) (by decide +kernel), in_at 595 (by decide +kernel) (by decide +kernel), by decide, by decide, by decide +kernel⟩
set_option maxRecDepth 100000 in
theorem se_X5_rowNumber : Cond.selects yX5_rowNumber.cls yX5_rowNumber yX5_rowNumber ∈ wAll ∧ Cond.instanceMethod yX5_rowNumber ∈ wAll := ⟨in_at 594 (by decide +kernel) (by decide +kernel), in_at 593 (by decide +kernel) (by decide +kernel)⟩
set_option maxRecDepth 100000 in
theorem mi_X5_whyItStays : MI yX5_whyItStays cX5_whyItStays 3 (some .int) 1 := ⟨in_at 5 (by decide +kernel) (by decide +kernel), in_at 599 (by decide +kernel) (by decide +kernel), by decide, by decide, by decide +kernel⟩
set_option maxRecDepth 100000 in
theorem se_X5_whyItStays : Cond.selects yX5_whyItStays.cls yX5_whyItStays yX5_whyItStays ∈ wAll ∧ Cond.instanceMethod yX5_whyItStays ∈ wAll := ⟨in_at 598 (by decide +kernel) (by decide +kernel), in_at 597 (by decide +kernel) (by decide +kernel)⟩
set_option maxRecDepth 100000 in
theorem mi_X5_receiverNumber : MI yX5_receiverNumber cX5_receiverNumber 3 (some .int) 2 := ⟨in_at 5 (by decide +kernel) (by decide +kernel), in_at 608 (by decide +kernel) (by decide +kernel), by decide, by decide, by decide +kernel⟩
set_option maxRecDepth 100000 in
theorem se_X5_receiverNumber : Cond.selects yX5_receiverNumber.cls yX5_receiverNumber yX5_receiverNumber ∈ wAll ∧ Cond.instanceMethod yX5_receiverNumber ∈ wAll := ⟨in_at 607 (by decide +kernel) (by decide +kernel), in_at 606 (by decide +kernel) (by decide +kernel)⟩
set_option maxRecDepth 100000 in
theorem mi_X5_sumDue : MI yX5_sumDue cX5_sumDue 4 (some .int) 1 := ⟨in_at 5 (by decide +kernel) (by decide +kernel), in_at 613 (by decide +kernel) (by decide +kernel), by decide, by decide, by decide +kernel⟩
set_option maxRecDepth 100000 in
theorem se_X5_sumDue : Cond.selects yX5_sumDue.cls yX5_sumDue yX5_sumDue ∈ wAll ∧ Cond.instanceMethod yX5_sumDue ∈ wAll := ⟨in_at 612 (by decide +kernel) (by decide +kernel), in_at 611 (by decide +kernel) (by decide +kernel)⟩
set_option maxRecDepth 100000 in
theorem mi_X5_skipped : MI yX5_skipped cX5_skipped 9 (some .int) 2 := ⟨in_at 5 (by decide +kernel) (by decide +kernel), in_at 665 (by decide +kernel) (by decide +kernel), by decide, by decide, by decide +kernel⟩
set_option maxRecDepth 100000 in
theorem se_X5_skipped : Cond.selects yX5_skipped.cls yX5_skipped yX5_skipped ∈ wAll ∧ Cond.instanceMethod yX5_skipped ∈ wAll := ⟨in_at 664 (by decide +kernel) (by decide +kernel), in_at 663 (by decide +kernel) (by decide +kernel)⟩
set_option maxRecDepth 100000 in
theorem mi_X5_counted : MI yX5_counted cX5_counted 2 (some .int) 1 := ⟨in_at 5 (by decide +kernel) (by decide +kernel), in_at 479 (by decide +kernel) (by decide +kernel), by decide, by decide, by decide +kernel⟩
set_option maxRecDepth 100000 in
theorem se_X5_counted : Cond.selects yX5_counted.cls yX5_counted yX5_counted ∈ wAll ∧ Cond.instanceMethod yX5_counted ∈ wAll := ⟨in_at 478 (by decide +kernel) (by decide +kernel), in_at 477 (by decide +kernel) (by decide +kernel)⟩
set_option maxRecDepth 100000 in
theorem mi_X5_openTransactions : MI yX5_openTransactions cX5_openTransactions 3 (some .int) 0 := ⟨in_at 5 (by decide +kernel) (by decide +kernel), in_at 483 (by decide +kernel) (by decide +kernel), by decide, by decide, by decide +kernel⟩
set_option maxRecDepth 100000 in
theorem se_X5_openTransactions : Cond.selects yX5_openTransactions.cls yX5_openTransactions yX5_openTransactions ∈ wAll ∧ Cond.instanceMethod yX5_openTransactions ∈ wAll := ⟨in_at 482 (by decide +kernel) (by decide +kernel), in_at 481 (by decide +kernel) (by decide +kernel)⟩
set_option maxRecDepth 100000 in
theorem mi_X6_init : MI yX6_init cX6_init 1 none 0 := ⟨in_at 6 (by decide +kernel) (by decide +kernel), in_at 47 (by decide +kernel) (by decide +kernel), by decide, by decide, by decide +kernel⟩
set_option maxRecDepth 100000 in
theorem si_X6_init : Cond.instanceMethod yX6_init ∈ wAll := in_at 46 (by decide +kernel) (by decide +kernel)
set_option maxRecDepth 100000 in
theorem mi_X6_copyFrom : MI yX6_copyFrom cX6_copyFrom 2 none 1 := ⟨in_at 6 (by decide +kernel) (by decide +kernel), in_at 441 (by decide +kernel) (by decide +kernel), by decide, by decide, by decide +kernel⟩
set_option maxRecDepth 100000 in
theorem se_X6_copyFrom : Cond.selects yX6_copyFrom.cls yX6_copyFrom yX6_copyFrom ∈ wAll ∧ Cond.instanceMethod yX6_copyFrom ∈ wAll := ⟨in_at 440 (by decide +kernel) (by decide +kernel), in_at 439 (by decide +kernel) (by decide +kernel)⟩
set_option maxRecDepth 100000 in
theorem mi_X6_addRow : MI yX6_addRow cX6_addRow 4 none 3 := ⟨in_at 6 (by decide +kernel) (by decide +kernel), in_at 690 (by decide +kernel) (by decide +kernel), by decide, by decide, by decide +kernel⟩
set_option maxRecDepth 100000 in
theorem se_X6_addRow : Cond.selects yX6_addRow.cls yX6_addRow yX6_addRow ∈ wAll ∧ Cond.instanceMethod yX6_addRow ∈ wAll := ⟨in_at 689 (by decide +kernel) (by decide +kernel), in_at 688 (by decide +kernel) (by decide +kernel)⟩
set_option maxRecDepth 100000 in
theorem mi_X6_tell : MI yX6_tell cX6_tell 4 (some .int) 1 := ⟨in_at 6 (by decide +kernel) (by decide +kernel), in_at 471 (by decide +kernel) (by decide +kernel), by decide, by decide, by decide +kernel⟩
set_option maxRecDepth 100000 in
theorem se_X6_tell : Cond.selects yX6_tell.cls yX6_tell yX6_tell ∈ wAll ∧ Cond.instanceMethod yX6_tell ∈ wAll := ⟨in_at 470 (by decide +kernel) (by decide +kernel), in_at 469 (by decide +kernel) (by decide +kernel)⟩
set_option maxRecDepth 100000 in
theorem mi_X7_init : MI yX7_init cX7_init 1 none 0 := ⟨in_at 4 (by decide +kernel) (by decide +kernel), in_at 23 (by decide +kernel) (by decide +kernel), by decide, by decide, by decide +kernel⟩
set_option maxRecDepth 100000 in
theorem si_X7_init : Cond.instanceMethod yX7_init ∈ wAll := in_at 22 (by decide +kernel) (by decide +kernel)
set_option maxRecDepth 100000 in
theorem mi_X7_begin : MI yX7_begin cX7_begin 2 (some .int) 0 := ⟨in_at 4 (by decide +kernel) (by decide +kernel), in_at 646 (by decide +kernel) (by decide +kernel), by decide, by decide, by decide +kernel⟩
set_option maxRecDepth 100000 in
theorem se_X7_begin : Cond.selects yX7_begin.cls yX7_begin yX7_begin ∈ wAll ∧ Cond.instanceMethod yX7_begin ∈ wAll := ⟨in_at 645 (by decide +kernel) (by decide +kernel), in_at 644 (by decide +kernel) (by decide +kernel)⟩
set_option maxRecDepth 100000 in
theorem mi_X7_write : MI yX7_write cX7_write 4 (some .int) 3 := ⟨in_at 4 (by decide +kernel) (by decide +kernel), in_at 673 (by decide +kernel) (by decide +kernel), by decide, by decide, by decide +kernel⟩
set_option maxRecDepth 100000 in
theorem se_X7_write : Cond.selects yX7_write.cls yX7_write yX7_write ∈ wAll ∧ Cond.instanceMethod yX7_write ∈ wAll := ⟨in_at 672 (by decide +kernel) (by decide +kernel), in_at 671 (by decide +kernel) (by decide +kernel)⟩
set_option maxRecDepth 100000 in
theorem mi_X7_commit : MI yX7_commit cX7_commit 2 (some .int) 1 := ⟨in_at 4 (by decide +kernel) (by decide +kernel), in_at 694 (by decide +kernel) (by decide +kernel), by decide, by decide, by decide +kernel⟩
set_option maxRecDepth 100000 in
theorem se_X7_commit : Cond.selects yX7_commit.cls yX7_commit yX7_commit ∈ wAll ∧ Cond.instanceMethod yX7_commit ∈ wAll := ⟨in_at 693 (by decide +kernel) (by decide +kernel), in_at 692 (by decide +kernel) (by decide +kernel)⟩
set_option maxRecDepth 100000 in
theorem mi_X7_drop : MI yX7_drop cX7_drop 2 (some .int) 1 := ⟨in_at 4 (by decide +kernel) (by decide +kernel), in_at 712 (by decide +kernel) (by decide +kernel), by decide, by decide, by decide +kernel⟩
set_option maxRecDepth 100000 in
theorem se_X7_drop : Cond.selects yX7_drop.cls yX7_drop yX7_drop ∈ wAll ∧ Cond.instanceMethod yX7_drop ∈ wAll := ⟨in_at 711 (by decide +kernel) (by decide +kernel), in_at 710 (by decide +kernel) (by decide +kernel)⟩
set_option maxRecDepth 100000 in
theorem mi_X7_want : MI yX7_want cX7_want 5 (some .int) 2 := ⟨in_at 4 (by decide +kernel) (by decide +kernel), in_at 720 (by decide +kernel) (by decide +kernel), by decide, by decide, by decide +kernel⟩
set_option maxRecDepth 100000 in
theorem se_X7_want : Cond.selects yX7_want.cls yX7_want yX7_want ∈ wAll ∧ Cond.instanceMethod yX7_want ∈ wAll := ⟨in_at 719 (by decide +kernel) (by decide +kernel), in_at 718 (by decide +kernel) (by decide +kernel)⟩
set_option maxRecDepth 100000 in
theorem mi_X7_pass : MI yX7_pass cX7_pass 2 (some .int) 1 := ⟨in_at 4 (by decide +kernel) (by decide +kernel), in_at 752 (by decide +kernel) (by decide +kernel), by decide, by decide, by decide +kernel⟩
set_option maxRecDepth 100000 in
theorem se_X7_pass : Cond.selects yX7_pass.cls yX7_pass yX7_pass ∈ wAll ∧ Cond.instanceMethod yX7_pass ∈ wAll := ⟨in_at 751 (by decide +kernel) (by decide +kernel), in_at 750 (by decide +kernel) (by decide +kernel)⟩
set_option maxRecDepth 100000 in
theorem mi_X7_lose : MI yX7_lose cX7_lose 1 (some .int) 0 := ⟨in_at 4 (by decide +kernel) (by decide +kernel), in_at 725 (by decide +kernel) (by decide +kernel), by decide, by decide, by decide +kernel⟩
set_option maxRecDepth 100000 in
theorem se_X7_lose : Cond.selects yX7_lose.cls yX7_lose yX7_lose ∈ wAll ∧ Cond.instanceMethod yX7_lose ∈ wAll := ⟨in_at 724 (by decide +kernel) (by decide +kernel), in_at 723 (by decide +kernel) (by decide +kernel)⟩
set_option maxRecDepth 100000 in
theorem mi_X7_sweep : MI yX7_sweep cX7_sweep 1 (some .int) 0 := ⟨in_at 4 (by decide +kernel) (by decide +kernel), in_at 734 (by decide +kernel) (by decide +kernel), by decide, by decide, by decide +kernel⟩
set_option maxRecDepth 100000 in
theorem se_X7_sweep : Cond.selects yX7_sweep.cls yX7_sweep yX7_sweep ∈ wAll ∧ Cond.instanceMethod yX7_sweep ∈ wAll := ⟨in_at 733 (by decide +kernel) (by decide +kernel), in_at 732 (by decide +kernel) (by decide +kernel)⟩
set_option maxRecDepth 100000 in
theorem mi_X7_set : MI yX7_set cX7_set 4 (some .int) 2 := ⟨in_at 4 (by decide +kernel) (by decide +kernel), in_at 316 (by decide +kernel) (by decide +kernel), by decide, by decide, by decide +kernel⟩
set_option maxRecDepth 100000 in
theorem se_X7_set : Cond.selects yX7_set.cls yX7_set yX7_set ∈ wAll ∧ Cond.instanceMethod yX7_set ∈ wAll := ⟨in_at 315 (by decide +kernel) (by decide +kernel), in_at 314 (by decide +kernel) (by decide +kernel)⟩
set_option maxRecDepth 100000 in
theorem mi_X7_row : MI yX7_row cX7_row 3 (some .int) 2 := ⟨in_at 4 (by decide +kernel) (by decide +kernel), in_at 590 (by decide +kernel) (by decide +kernel), by decide, by decide, by decide +kernel⟩
set_option maxRecDepth 100000 in
theorem se_X7_row : Cond.selects yX7_row.cls yX7_row yX7_row ∈ wAll ∧ Cond.instanceMethod yX7_row ∈ wAll := ⟨in_at 589 (by decide +kernel) (by decide +kernel), in_at 588 (by decide +kernel) (by decide +kernel)⟩
set_option maxRecDepth 100000 in
theorem mi_X7_transaction : MI yX7_transaction cX7_transaction 3 (some .int) 2 := ⟨in_at 4 (by decide +kernel) (by decide +kernel), in_at 465 (by decide +kernel) (by decide +kernel), by decide, by decide, by decide +kernel⟩
set_option maxRecDepth 100000 in
theorem se_X7_transaction : Cond.selects yX7_transaction.cls yX7_transaction yX7_transaction ∈ wAll ∧ Cond.instanceMethod yX7_transaction ∈ wAll := ⟨in_at 464 (by decide +kernel) (by decide +kernel), in_at 463 (by decide +kernel) (by decide +kernel)⟩
set_option maxRecDepth 100000 in
theorem mi_X7_receiver : MI yX7_receiver cX7_receiver 3 (some .int) 2 := ⟨in_at 4 (by decide +kernel) (by decide +kernel), in_at 603 (by decide +kernel) (by decide +kernel), by decide, by decide, by decide +kernel⟩
set_option maxRecDepth 100000 in
theorem se_X7_receiver : Cond.selects yX7_receiver.cls yX7_receiver yX7_receiver ∈ wAll ∧ Cond.instanceMethod yX7_receiver ∈ wAll := ⟨in_at 602 (by decide +kernel) (by decide +kernel), in_at 601 (by decide +kernel) (by decide +kernel)⟩
set_option maxRecDepth 100000 in
theorem mi_X7_message : MI yX7_message cX7_message 3 (some .int) 2 := ⟨in_at 4 (by decide +kernel) (by decide +kernel), in_at 635 (by decide +kernel) (by decide +kernel), by decide, by decide, by decide +kernel⟩
set_option maxRecDepth 100000 in
theorem se_X7_message : Cond.selects yX7_message.cls yX7_message yX7_message ∈ wAll ∧ Cond.instanceMethod yX7_message ∈ wAll := ⟨in_at 634 (by decide +kernel) (by decide +kernel), in_at 633 (by decide +kernel) (by decide +kernel)⟩
set_option maxRecDepth 100000 in
theorem mi_X7_count : MI yX7_count cX7_count 2 (some .int) 1 := ⟨in_at 4 (by decide +kernel) (by decide +kernel), in_at 475 (by decide +kernel) (by decide +kernel), by decide, by decide, by decide +kernel⟩
set_option maxRecDepth 100000 in
theorem se_X7_count : Cond.selects yX7_count.cls yX7_count yX7_count ∈ wAll ∧ Cond.instanceMethod yX7_count ∈ wAll := ⟨in_at 474 (by decide +kernel) (by decide +kernel), in_at 473 (by decide +kernel) (by decide +kernel)⟩
set_option maxRecDepth 100000 in
theorem mi_X7_setting : MI yX7_setting cX7_setting 2 (some .int) 1 := ⟨in_at 4 (by decide +kernel) (by decide +kernel), in_at 625 (by decide +kernel) (by decide +kernel), by decide, by decide, by decide +kernel⟩
set_option maxRecDepth 100000 in
theorem se_X7_setting : Cond.selects yX7_setting.cls yX7_setting yX7_setting ∈ wAll ∧ Cond.instanceMethod yX7_setting ∈ wAll := ⟨in_at 624 (by decide +kernel) (by decide +kernel), in_at 623 (by decide +kernel) (by decide +kernel)⟩
set_option maxRecDepth 100000 in
theorem mi_X7_drainIn : MI yX7_drainIn cX7_drainIn 3 (some .int) 0 := ⟨in_at 4 (by decide +kernel) (by decide +kernel), in_at 487 (by decide +kernel) (by decide +kernel), by decide, by decide, by decide +kernel⟩
set_option maxRecDepth 100000 in
theorem se_X7_drainIn : Cond.selects yX7_drainIn.cls yX7_drainIn yX7_drainIn ∈ wAll ∧ Cond.instanceMethod yX7_drainIn ∈ wAll := ⟨in_at 486 (by decide +kernel) (by decide +kernel), in_at 485 (by decide +kernel) (by decide +kernel)⟩
set_option maxRecDepth 100000 in
theorem mi_X7_skips : MI yX7_skips cX7_skips 3 (some .int) 2 := ⟨in_at 4 (by decide +kernel) (by decide +kernel), in_at 660 (by decide +kernel) (by decide +kernel), by decide, by decide, by decide +kernel⟩
set_option maxRecDepth 100000 in
theorem se_X7_skips : Cond.selects yX7_skips.cls yX7_skips yX7_skips ∈ wAll ∧ Cond.instanceMethod yX7_skips ∈ wAll := ⟨in_at 659 (by decide +kernel) (by decide +kernel), in_at 658 (by decide +kernel) (by decide +kernel)⟩
set_option maxRecDepth 100000 in
theorem mi_X7_slowest : MI yX7_slowest cX7_slowest 5 (some .int) 0 := ⟨in_at 4 (by decide +kernel) (by decide +kernel), in_at 571 (by decide +kernel) (by decide +kernel), by decide, by decide, by decide +kernel⟩
set_option maxRecDepth 100000 in
theorem se_X7_slowest : Cond.selects yX7_slowest.cls yX7_slowest yX7_slowest ∈ wAll ∧ Cond.instanceMethod yX7_slowest ∈ wAll := ⟨in_at 570 (by decide +kernel) (by decide +kernel), in_at 569 (by decide +kernel) (by decide +kernel)⟩
set_option maxRecDepth 100000 in
theorem mi_X7_isBelow : MI yX7_isBelow cX7_isBelow 2 (some .boolean) 2 := ⟨in_at 4 (by decide +kernel) (by decide +kernel), in_at 319 (by decide +kernel) (by decide +kernel), by decide, by decide, by decide +kernel⟩
set_option maxRecDepth 100000 in
theorem ss_X7_isBelow : Cond.static yX7_isBelow ∈ wAll := in_at 318 (by decide +kernel) (by decide +kernel)
set_option maxRecDepth 100000 in
theorem mi_X7_isTicks : MI yX7_isTicks cX7_isTicks 1 (some .boolean) 1 := ⟨in_at 4 (by decide +kernel) (by decide +kernel), in_at 755 (by decide +kernel) (by decide +kernel), by decide, by decide, by decide +kernel⟩
set_option maxRecDepth 100000 in
theorem ss_X7_isTicks : Cond.static yX7_isTicks ∈ wAll := in_at 754 (by decide +kernel) (by decide +kernel)
set_option maxRecDepth 100000 in
theorem mi_X7_isSettingValue : MI yX7_isSettingValue cX7_isSettingValue 2 (some .boolean) 2 := ⟨in_at 4 (by decide +kernel) (by decide +kernel), in_at 390 (by decide +kernel) (by decide +kernel), by decide, by decide, by decide +kernel⟩
set_option maxRecDepth 100000 in
theorem ss_X7_isSettingValue : Cond.static yX7_isSettingValue ∈ wAll := in_at 389 (by decide +kernel) (by decide +kernel)
set_option maxRecDepth 100000 in
theorem mi_X7_save : MI yX7_save cX7_save 3 none 0 := ⟨in_at 4 (by decide +kernel) (by decide +kernel), in_at 430 (by decide +kernel) (by decide +kernel), by decide, by decide, by decide +kernel⟩
set_option maxRecDepth 100000 in
theorem se_X7_save : Cond.selects yX7_save.cls yX7_save yX7_save ∈ wAll ∧ Cond.instanceMethod yX7_save ∈ wAll := ⟨in_at 1 (by decide +kernel) (by decide +kernel), in_at 429 (by decide +kernel) (by decide +kernel)⟩
set_option maxRecDepth 100000 in
theorem mi_X7_freshTrial : MI yX7_freshTrial cX7_freshTrial 1 (some (.object "OutboxRelay$State")) 0 := ⟨in_at 4 (by decide +kernel) (by decide +kernel), in_at 491 (by decide +kernel) (by decide +kernel), by decide, by decide, by decide +kernel⟩
set_option maxRecDepth 100000 in
theorem se_X7_freshTrial : Cond.selects yX7_freshTrial.cls yX7_freshTrial yX7_freshTrial ∈ wAll ∧ Cond.instanceMethod yX7_freshTrial ∈ wAll := ⟨in_at 2 (by decide +kernel) (by decide +kernel), in_at 490 (by decide +kernel) (by decide +kernel)⟩
set_option maxRecDepth 100000 in
theorem ss_L_cell : Cond.static yL_cell ∈ wAll := in_at 577 (by decide +kernel) (by decide +kernel)
set_option maxRecDepth 100000 in
theorem ss_L_low : Cond.static yL_low ∈ wAll := in_at 581 (by decide +kernel) (by decide +kernel)
set_option maxRecDepth 100000 in
theorem ss_L_greater : Cond.static yL_greater ∈ wAll := in_at 747 (by decide +kernel) (by decide +kernel)
set_option maxRecDepth 100000 in
theorem ss_L_rows : Cond.static yL_rows ∈ wAll := in_at 585 (by decide +kernel) (by decide +kernel)
set_option maxRecDepth 100000 in
theorem ss_L_in : Cond.static yL_in ∈ wAll := in_at 627 (by decide +kernel) (by decide +kernel)
set_option maxRecDepth 100000 in
theorem ss_L_ways : Cond.static yL_ways ∈ wAll := in_at 630 (by decide +kernel) (by decide +kernel)
set_option maxRecDepth 100000 in
theorem ss_L_ticks : Cond.static yL_ticks ∈ wAll := in_at 744 (by decide +kernel) (by decide +kernel)
set_option maxRecDepth 100000 in
theorem ss_L_sweeps : Cond.static yL_sweeps ∈ wAll := in_at 729 (by decide +kernel) (by decide +kernel)
set_option maxRecDepth 100000 in
theorem ss_L_act : Cond.static yL_act ∈ wAll := in_at 641 (by decide +kernel) (by decide +kernel)
set_option maxRecDepth 100000 in
theorem ml_X7_1 : Cond.methodLink RX7 1 objectInit ∈ wAll := in_at 24 (by decide +kernel) (by decide +kernel)
set_option maxRecDepth 100000 in
theorem ml_X5_3 : Cond.methodLink RX5 3 objectInit ∈ wAll := in_at 32 (by decide +kernel) (by decide +kernel)
set_option maxRecDepth 100000 in
theorem ml_X6_3 : Cond.methodLink RX6 3 objectInit ∈ wAll := in_at 48 (by decide +kernel) (by decide +kernel)
set_option maxRecDepth 100000 in
theorem ml_X4_3 : Cond.methodLink RX4 3 objectInit ∈ wAll := in_at 76 (by decide +kernel) (by decide +kernel)
set_option maxRecDepth 100000 in
theorem ml_X3_3 : Cond.methodLink RX3 3 objectInit ∈ wAll := in_at 127 (by decide +kernel) (by decide +kernel)
set_option maxRecDepth 100000 in
theorem ml_X0_3 : Cond.methodLink RX0 3 objectInit ∈ wAll := in_at 185 (by decide +kernel) (by decide +kernel)
set_option maxRecDepth 100000 in
theorem ml_X1_3 : Cond.methodLink RX1 3 objectInit ∈ wAll := in_at 192 (by decide +kernel) (by decide +kernel)
set_option maxRecDepth 100000 in
theorem ml_X2_3 : Cond.methodLink RX2 3 objectInit ∈ wAll := in_at 286 (by decide +kernel) (by decide +kernel)
set_option maxRecDepth 100000 in
theorem si_obj : Cond.instanceMethod objectInit ∈ wAll := in_at 25 (by decide +kernel) (by decide +kernel)
set_option maxRecDepth 100000 in
theorem co_obj : Cond.code objectInit ⟨#[0xb1]⟩ 1 none ∈ wAll := in_at 26 (by decide +kernel) (by decide +kernel)
set_option maxRecDepth 100000 in
theorem cl_L_10 : Cond.classLink RL 10 RX7 ∈ wAll := in_at 19 (by decide +kernel) (by decide +kernel)
set_option maxRecDepth 100000 in
theorem cl_X7_7 : Cond.classLink RX7 7 RX5 ∈ wAll := in_at 27 (by decide +kernel) (by decide +kernel)
set_option maxRecDepth 100000 in
theorem cl_X5_23 : Cond.classLink RX5 23 RX6 ∈ wAll := in_at 42 (by decide +kernel) (by decide +kernel)
set_option maxRecDepth 100000 in
theorem cl_X5_30 : Cond.classLink RX5 30 RX4 ∈ wAll := in_at 71 (by decide +kernel) (by decide +kernel)
set_option maxRecDepth 100000 in
theorem cl_X5_37 : Cond.classLink RX5 37 RX3 ∈ wAll := in_at 121 (by decide +kernel) (by decide +kernel)
set_option maxRecDepth 100000 in
theorem cl_X5_44 : Cond.classLink RX5 44 RX0 ∈ wAll := in_at 180 (by decide +kernel) (by decide +kernel)
set_option maxRecDepth 100000 in
theorem cl_X0_9 : Cond.classLink RX0 9 RX1 ∈ wAll := in_at 186 (by decide +kernel) (by decide +kernel)
set_option maxRecDepth 100000 in
theorem cl_X7_20 : Cond.classLink RX7 20 RX2 ∈ wAll := in_at 281 (by decide +kernel) (by decide +kernel)
set_option maxRecDepth 100000 in
theorem cn_X7 : Cond.instantiable RX7 6 ∈ wAll := in_at 20 (by decide +kernel) (by decide +kernel)
set_option maxRecDepth 100000 in
theorem cz_X7 : Cond.initialized RX7 ∈ wAll := in_at 4 (by decide +kernel) (by decide +kernel)
set_option maxRecDepth 100000 in
theorem cn_X5 : Cond.instantiable RX5 7 ∈ wAll := in_at 28 (by decide +kernel) (by decide +kernel)
set_option maxRecDepth 100000 in
theorem cz_X5 : Cond.initialized RX5 ∈ wAll := in_at 5 (by decide +kernel) (by decide +kernel)
set_option maxRecDepth 100000 in
theorem cn_X6 : Cond.instantiable RX6 5 ∈ wAll := in_at 44 (by decide +kernel) (by decide +kernel)
set_option maxRecDepth 100000 in
theorem cz_X6 : Cond.initialized RX6 ∈ wAll := in_at 6 (by decide +kernel) (by decide +kernel)
set_option maxRecDepth 100000 in
theorem cn_X4 : Cond.instantiable RX4 10 ∈ wAll := in_at 72 (by decide +kernel) (by decide +kernel)
set_option maxRecDepth 100000 in
theorem cz_X4 : Cond.initialized RX4 ∈ wAll := in_at 7 (by decide +kernel) (by decide +kernel)
set_option maxRecDepth 100000 in
theorem cn_X3 : Cond.instantiable RX3 14 ∈ wAll := in_at 123 (by decide +kernel) (by decide +kernel)
set_option maxRecDepth 100000 in
theorem cz_X3 : Cond.initialized RX3 ∈ wAll := in_at 8 (by decide +kernel) (by decide +kernel)
set_option maxRecDepth 100000 in
theorem cn_X0 : Cond.instantiable RX0 7 ∈ wAll := in_at 181 (by decide +kernel) (by decide +kernel)
set_option maxRecDepth 100000 in
theorem cz_X0 : Cond.initialized RX0 ∈ wAll := in_at 9 (by decide +kernel) (by decide +kernel)
set_option maxRecDepth 100000 in
theorem cn_X1 : Cond.instantiable RX1 6 ∈ wAll := in_at 188 (by decide +kernel) (by decide +kernel)
set_option maxRecDepth 100000 in
theorem cz_X1 : Cond.initialized RX1 ∈ wAll := in_at 10 (by decide +kernel) (by decide +kernel)
set_option maxRecDepth 100000 in
theorem cn_X2 : Cond.instantiable RX2 2 ∈ wAll := in_at 282 (by decide +kernel) (by decide +kernel)
set_option maxRecDepth 100000 in
theorem cz_X2 : Cond.initialized RX2 ∈ wAll := in_at 11 (by decide +kernel) (by decide +kernel)
set_option maxRecDepth 100000 in
theorem ka_int : Cond.arrayClass (aTy 0) ∈ wAll := in_at 70 (by decide +kernel) (by decide +kernel)
