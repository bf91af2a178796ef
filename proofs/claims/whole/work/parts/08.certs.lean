/-! words of the links, written by a program -/
set_option maxRecDepth 100000 in
theorem cc_S_83 : zx_cs "StillPicture" 83 y_S_isByte M_S_isByte 1 := ⟨⟨zx_mem 449 rfl rfl, zx_mem 68 (by decide +kernel) rfl, ⟨by decide, by decide, by decide +kernel⟩, Or.inl (zx_mem 447 (by decide +kernel) rfl)⟩, zx_mem 448 (by decide +kernel) rfl⟩
set_option maxRecDepth 100000 in
theorem cc_S_87 : zx_cv "StillPicture" 87 y_B_read M_B_read 1 := ⟨⟨zx_mem 473 rfl rfl, zx_mem 69 (by decide +kernel) rfl, ⟨by decide, by decide, by decide +kernel⟩, Or.inl (zx_mem 470 (by decide +kernel) rfl)⟩, zx_mem 471 (by decide +kernel) rfl, zx_mem 472 (by decide +kernel) rfl⟩
set_option maxRecDepth 100000 in
theorem cc_B_34 : zx_cv "StillPicture$Boxes" 34 y_B_readStretch M_B_readStretch 3 := ⟨⟨zx_mem 477 rfl rfl, zx_mem 69 (by decide +kernel) rfl, ⟨by decide, by decide, by decide +kernel⟩, Or.inl (zx_mem 474 (by decide +kernel) rfl)⟩, zx_mem 476 (by decide +kernel) rfl, zx_memS 0 (by decide +kernel) rfl⟩
set_option maxRecDepth 100000 in
theorem cc_S_91 : zx_cv "StillPicture" 91 y_I_find M_I_find 1 := ⟨⟨zx_mem 481 rfl rfl, zx_mem 70 (by decide +kernel) rfl, ⟨by decide, by decide, by decide +kernel⟩, Or.inl (zx_mem 478 (by decide +kernel) rfl)⟩, zx_mem 479 (by decide +kernel) rfl, zx_mem 480 (by decide +kernel) rfl⟩
set_option maxRecDepth 100000 in
theorem cc_I_35 : zx_cv "StillPicture$Item" 35 y_B_isBranded M_B_isBranded 0 := ⟨⟨zx_mem 485 rfl rfl, zx_mem 69 (by decide +kernel) rfl, ⟨by decide, by decide, by decide +kernel⟩, Or.inl (zx_mem 482 (by decide +kernel) rfl)⟩, zx_mem 483 (by decide +kernel) rfl, zx_mem 484 (by decide +kernel) rfl⟩
set_option maxRecDepth 100000 in
theorem cc_I_41 : zx_cv "StillPicture$Item" 41 y_B_first M_B_first 2 := ⟨⟨zx_mem 489 rfl rfl, zx_mem 69 (by decide +kernel) rfl, ⟨by decide, by decide, by decide +kernel⟩, Or.inl (zx_mem 486 (by decide +kernel) rfl)⟩, zx_mem 487 (by decide +kernel) rfl, zx_mem 488 (by decide +kernel) rfl⟩
set_option maxRecDepth 100000 in
theorem cc_I_48 : zx_cv "StillPicture$Item" 48 y_B_contentLength M_B_contentLength 1 := ⟨⟨zx_mem 493 rfl rfl, zx_mem 69 (by decide +kernel) rfl, ⟨by decide, by decide, by decide +kernel⟩, Or.inl (zx_mem 490 (by decide +kernel) rfl)⟩, zx_mem 491 (by decide +kernel) rfl, zx_mem 492 (by decide +kernel) rfl⟩
set_option maxRecDepth 100000 in
theorem cc_I_58 : zx_cv "StillPicture$Item" 58 y_I_readPlaces M_I_readPlaces 1 := ⟨⟨zx_mem 497 rfl rfl, zx_mem 70 (by decide +kernel) rfl, ⟨by decide, by decide, by decide +kernel⟩, Or.inl (zx_mem 494 (by decide +kernel) rfl)⟩, zx_mem 496 (by decide +kernel) rfl, zx_memS 1 (by decide +kernel) rfl⟩
set_option maxRecDepth 100000 in
theorem cc_I_67 : zx_cv "StillPicture$Item" 67 y_U_open M_U_open 2 := ⟨⟨zx_mem 501 rfl rfl, zx_mem 71 (by decide +kernel) rfl, ⟨by decide, by decide, by decide +kernel⟩, Or.inl (zx_mem 498 (by decide +kernel) rfl)⟩, zx_mem 499 (by decide +kernel) rfl, zx_mem 500 (by decide +kernel) rfl⟩
set_option maxRecDepth 100000 in
theorem cc_U_13 : .methodLink "StillPicture$Cursor" 13 Lib.Math.max.name ∈ zx_ws ∧ .static Lib.Math.max.name ∈ zx_ws ∧ .initialized "java/lang/Math" ∈ zx_ws ∧ .code Lib.Math.max.name Lib.Math.max.code 2 (some .int) ∈ zx_ws := ⟨zx_mem 502 (by decide +kernel) rfl, zx_mem 503 (by decide +kernel) rfl, zx_mem 80 (by decide +kernel) rfl, zx_mem 504 rfl rfl⟩
set_option maxRecDepth 100000 in
theorem cc_U_23 : .methodLink "StillPicture$Cursor" 23 Lib.Math.min.name ∈ zx_ws ∧ .static Lib.Math.min.name ∈ zx_ws ∧ .initialized "java/lang/Math" ∈ zx_ws ∧ .code Lib.Math.min.name Lib.Math.min.code 2 (some .int) ∈ zx_ws := ⟨zx_mem 505 (by decide +kernel) rfl, zx_mem 506 (by decide +kernel) rfl, zx_mem 80 (by decide +kernel) rfl, zx_mem 507 rfl rfl⟩
set_option maxRecDepth 100000 in
theorem cc_I_71 : zx_cv "StillPicture$Item" 71 y_U_nextByte M_U_nextByte 0 := ⟨⟨zx_mem 511 rfl rfl, zx_mem 71 (by decide +kernel) rfl, ⟨by decide, by decide, by decide +kernel⟩, Or.inl (zx_mem 508 (by decide +kernel) rfl)⟩, zx_mem 509 (by decide +kernel) rfl, zx_mem 510 (by decide +kernel) rfl⟩
set_option maxRecDepth 100000 in
theorem cc_I_75 : zx_cv "StillPicture$Item" 75 y_I_readPairs M_I_readPairs 1 := ⟨⟨zx_mem 515 rfl rfl, zx_mem 70 (by decide +kernel) rfl, ⟨by decide, by decide, by decide +kernel⟩, Or.inl (zx_mem 512 (by decide +kernel) rfl)⟩, zx_mem 514 (by decide +kernel) rfl, zx_memS 2 (by decide +kernel) rfl⟩
set_option maxRecDepth 100000 in
theorem cc_I_85 : .methodLink "StillPicture$Item" 85 arraycopyName ∈ zx_ws ∧ .native arraycopyName ∈ zx_ws ∧ .static arraycopyName ∈ zx_ws ∧ .initialized "java/lang/System" ∈ zx_ws := ⟨zx_mem 516 (by decide +kernel) rfl, zx_mem 518 (by decide +kernel) rfl, zx_mem 517 (by decide +kernel) rfl, zx_mem 81 (by decide +kernel) rfl⟩
set_option maxRecDepth 100000 in
theorem cc_I_78 : zx_cv "StillPicture$Item" 78 y_U_skip M_U_skip 1 := ⟨⟨zx_mem 522 rfl rfl, zx_mem 71 (by decide +kernel) rfl, ⟨by decide, by decide, by decide +kernel⟩, Or.inl (zx_mem 519 (by decide +kernel) rfl)⟩, zx_mem 520 (by decide +kernel) rfl, zx_mem 521 (by decide +kernel) rfl⟩
set_option maxRecDepth 100000 in
theorem cc_I_61 : zx_cv "StillPicture$Item" 61 y_I_readLinks M_I_readLinks 1 := ⟨⟨zx_mem 526 rfl rfl, zx_mem 70 (by decide +kernel) rfl, ⟨by decide, by decide, by decide +kernel⟩, Or.inl (zx_mem 523 (by decide +kernel) rfl)⟩, zx_mem 525 (by decide +kernel) rfl, zx_memS 3 (by decide +kernel) rfl⟩
set_option maxRecDepth 100000 in
theorem cc_I_100 : zx_cv "StillPicture$Item" 100 y_U_left M_U_left 0 := ⟨⟨zx_mem 530 rfl rfl, zx_mem 71 (by decide +kernel) rfl, ⟨by decide, by decide, by decide +kernel⟩, Or.inl (zx_mem 527 (by decide +kernel) rfl)⟩, zx_mem 528 (by decide +kernel) rfl, zx_mem 529 (by decide +kernel) rfl⟩
set_option maxRecDepth 100000 in
theorem cc_I_103 : zx_cv "StillPicture$Item" 103 y_I_readLink M_I_readLink 0 := ⟨⟨zx_mem 534 rfl rfl, zx_mem 70 (by decide +kernel) rfl, ⟨by decide, by decide, by decide +kernel⟩, Or.inl (zx_mem 531 (by decide +kernel) rfl)⟩, zx_mem 533 (by decide +kernel) rfl, zx_memS 4 (by decide +kernel) rfl⟩
set_option maxRecDepth 100000 in
theorem cc_I_109 : zx_cv "StillPicture$Item" 109 y_I_link M_I_link 1 := ⟨⟨zx_mem 538 rfl rfl, zx_mem 70 (by decide +kernel) rfl, ⟨by decide, by decide, by decide +kernel⟩, Or.inl (zx_mem 535 (by decide +kernel) rfl)⟩, zx_mem 537 (by decide +kernel) rfl, zx_memS 5 (by decide +kernel) rfl⟩
set_option maxRecDepth 100000 in
theorem cc_I_112 : zx_cv "StillPicture$Item" 112 y_B_property M_B_property 2 := ⟨⟨zx_mem 542 rfl rfl, zx_mem 69 (by decide +kernel) rfl, ⟨by decide, by decide, by decide +kernel⟩, Or.inl (zx_mem 539 (by decide +kernel) rfl)⟩, zx_mem 540 (by decide +kernel) rfl, zx_mem 541 (by decide +kernel) rfl⟩
set_option maxRecDepth 100000 in
theorem cc_I_106 : zx_cv "StillPicture$Item" 106 y_I_areLinksWhole M_I_areLinksWhole 0 := ⟨⟨zx_mem 546 rfl rfl, zx_mem 70 (by decide +kernel) rfl, ⟨by decide, by decide, by decide +kernel⟩, Or.inl (zx_mem 543 (by decide +kernel) rfl)⟩, zx_mem 545 (by decide +kernel) rfl, zx_memS 6 (by decide +kernel) rfl⟩
set_option maxRecDepth 100000 in
theorem cc_S_94 : zx_cv "StillPicture" 94 y_H_read M_H_read 0 := ⟨⟨zx_mem 550 rfl rfl, zx_mem 72 (by decide +kernel) rfl, ⟨by decide, by decide, by decide +kernel⟩, Or.inl (zx_mem 547 (by decide +kernel) rfl)⟩, zx_mem 548 (by decide +kernel) rfl, zx_mem 549 (by decide +kernel) rfl⟩
set_option maxRecDepth 100000 in
theorem cc_H_44 : zx_cv "StillPicture$Header" 44 y_U_open M_U_open 2 := ⟨⟨zx_mem 501 rfl rfl, zx_mem 71 (by decide +kernel) rfl, ⟨by decide, by decide, by decide +kernel⟩, Or.inl (zx_mem 551 (by decide +kernel) rfl)⟩, zx_mem 499 (by decide +kernel) rfl, zx_mem 500 (by decide +kernel) rfl⟩
set_option maxRecDepth 100000 in
theorem cc_H_48 : zx_cv "StillPicture$Header" 48 y_H_readUnit M_H_readUnit 0 := ⟨⟨zx_mem 555 rfl rfl, zx_mem 72 (by decide +kernel) rfl, ⟨by decide, by decide, by decide +kernel⟩, Or.inl (zx_mem 552 (by decide +kernel) rfl)⟩, zx_mem 554 (by decide +kernel) rfl, zx_memS 7 (by decide +kernel) rfl⟩
set_option maxRecDepth 100000 in
theorem cc_H_52 : zx_cv "StillPicture$Header" 52 y_U_nextByte M_U_nextByte 0 := ⟨⟨zx_mem 511 rfl rfl, zx_mem 71 (by decide +kernel) rfl, ⟨by decide, by decide, by decide +kernel⟩, Or.inl (zx_mem 556 (by decide +kernel) rfl)⟩, zx_mem 509 (by decide +kernel) rfl, zx_mem 510 (by decide +kernel) rfl⟩
set_option maxRecDepth 100000 in
theorem cc_H_55 : zx_cv "StillPicture$Header" 55 y_H_readCount M_H_readCount 0 := ⟨⟨zx_mem 560 rfl rfl, zx_mem 72 (by decide +kernel) rfl, ⟨by decide, by decide, by decide +kernel⟩, Or.inl (zx_mem 557 (by decide +kernel) rfl)⟩, zx_mem 559 (by decide +kernel) rfl, zx_memS 8 (by decide +kernel) rfl⟩
set_option maxRecDepth 100000 in
theorem cc_H_64 : zx_cv "StillPicture$Header" 64 y_U_skip M_U_skip 1 := ⟨⟨zx_mem 522 rfl rfl, zx_mem 71 (by decide +kernel) rfl, ⟨by decide, by decide, by decide +kernel⟩, Or.inl (zx_mem 562 (by decide +kernel) rfl)⟩, zx_mem 520 (by decide +kernel) rfl, zx_mem 521 (by decide +kernel) rfl⟩
set_option maxRecDepth 100000 in
theorem cc_H_68 : zx_cv "StillPicture$Header" 68 y_H_readSequence M_H_readSequence 0 := ⟨⟨zx_mem 566 rfl rfl, zx_mem 72 (by decide +kernel) rfl, ⟨by decide, by decide, by decide +kernel⟩, Or.inl (zx_mem 563 (by decide +kernel) rfl)⟩, zx_mem 565 (by decide +kernel) rfl, zx_memS 9 (by decide +kernel) rfl⟩
set_option maxRecDepth 100000 in
theorem cc_H_74 : zx_cv "StillPicture$Header" 74 y_U_nextBits M_U_nextBits 1 := ⟨⟨zx_mem 570 rfl rfl, zx_mem 71 (by decide +kernel) rfl, ⟨by decide, by decide, by decide +kernel⟩, Or.inl (zx_mem 567 (by decide +kernel) rfl)⟩, zx_mem 568 (by decide +kernel) rfl, zx_mem 569 (by decide +kernel) rfl⟩
set_option maxRecDepth 100000 in
theorem cc_H_93 : zx_cv "StillPicture$Header" 93 y_I_agrees M_I_agrees 5 := ⟨⟨zx_mem 574 rfl rfl, zx_mem 70 (by decide +kernel) rfl, ⟨by decide, by decide, by decide +kernel⟩, Or.inl (zx_mem 571 (by decide +kernel) rfl)⟩, zx_mem 572 (by decide +kernel) rfl, zx_mem 573 (by decide +kernel) rfl⟩
set_option maxRecDepth 100000 in
theorem cc_H_71 : zx_cv "StillPicture$Header" 71 y_H_readFrame M_H_readFrame 0 := ⟨⟨zx_mem 578 rfl rfl, zx_mem 72 (by decide +kernel) rfl, ⟨by decide, by decide, by decide +kernel⟩, Or.inl (zx_mem 575 (by decide +kernel) rfl)⟩, zx_mem 577 (by decide +kernel) rfl, zx_memS 10 (by decide +kernel) rfl⟩
set_option maxRecDepth 100000 in
theorem cc_H_109 : zx_cv "StillPicture$Header" 109 y_U_skipRestOfByte M_U_skipRestOfByte 0 := ⟨⟨zx_mem 582 rfl rfl, zx_mem 71 (by decide +kernel) rfl, ⟨by decide, by decide, by decide +kernel⟩, Or.inl (zx_mem 579 (by decide +kernel) rfl)⟩, zx_mem 580 (by decide +kernel) rfl, zx_mem 581 (by decide +kernel) rfl⟩
set_option maxRecDepth 100000 in
theorem cc_H_58 : zx_cv "StillPicture$Header" 58 y_U_left M_U_left 0 := ⟨⟨zx_mem 530 rfl rfl, zx_mem 71 (by decide +kernel) rfl, ⟨by decide, by decide, by decide +kernel⟩, Or.inl (zx_mem 561 (by decide +kernel) rfl)⟩, zx_mem 528 (by decide +kernel) rfl, zx_mem 529 (by decide +kernel) rfl⟩
set_option maxRecDepth 100000 in
theorem cc_S_97 : zx_cv "StillPicture" 97 y_T_read M_T_read 0 := ⟨⟨zx_mem 586 rfl rfl, zx_mem 75 (by decide +kernel) rfl, ⟨by decide, by decide, by decide +kernel⟩, Or.inl (zx_mem 583 (by decide +kernel) rfl)⟩, zx_mem 584 (by decide +kernel) rfl, zx_mem 585 (by decide +kernel) rfl⟩
set_option maxRecDepth 100000 in
theorem cc_T_58 : zx_cv "StillPicture$Tile" 58 y_C_start M_C_start 3 := ⟨⟨zx_mem 590 rfl rfl, zx_mem 73 (by decide +kernel) rfl, ⟨by decide, by decide, by decide +kernel⟩, Or.inl (zx_mem 587 (by decide +kernel) rfl)⟩, zx_mem 588 (by decide +kernel) rfl, zx_mem 589 (by decide +kernel) rfl⟩
set_option maxRecDepth 100000 in
theorem cc_C_19 : .methodLink "StillPicture$Coder" 19 Lib.Math.max.name ∈ zx_ws ∧ .static Lib.Math.max.name ∈ zx_ws ∧ .initialized "java/lang/Math" ∈ zx_ws ∧ .code Lib.Math.max.name Lib.Math.max.code 2 (some .int) ∈ zx_ws := ⟨zx_mem 591 (by decide +kernel) rfl, zx_mem 503 (by decide +kernel) rfl, zx_mem 80 (by decide +kernel) rfl, zx_mem 504 rfl rfl⟩
set_option maxRecDepth 100000 in
theorem cc_C_29 : .methodLink "StillPicture$Coder" 29 Lib.Math.min.name ∈ zx_ws ∧ .static Lib.Math.min.name ∈ zx_ws ∧ .initialized "java/lang/Math" ∈ zx_ws ∧ .code Lib.Math.min.name Lib.Math.min.code 2 (some .int) ∈ zx_ws := ⟨zx_mem 592 (by decide +kernel) rfl, zx_mem 506 (by decide +kernel) rfl, zx_mem 80 (by decide +kernel) rfl, zx_mem 507 rfl rfl⟩
set_option maxRecDepth 100000 in
theorem cc_C_42 : zx_cs "StillPicture$Coder" 42 y_A_fill M_A_fill 2 := ⟨⟨zx_mem 595 rfl rfl, zx_mem 82 (by decide +kernel) rfl, ⟨by decide, by decide, by decide +kernel⟩, Or.inl (zx_mem 593 (by decide +kernel) rfl)⟩, zx_mem 594 (by decide +kernel) rfl⟩
set_option maxRecDepth 100000 in
theorem cc_C_61 : zx_cv "StillPicture$Coder" 61 y_C_takeBit M_C_takeBit 0 := ⟨⟨zx_mem 602 rfl rfl, zx_mem 73 (by decide +kernel) rfl, ⟨by decide, by decide, by decide +kernel⟩, Or.inl (zx_mem 599 (by decide +kernel) rfl)⟩, zx_mem 601 (by decide +kernel) rfl, zx_memS 11 (by decide +kernel) rfl⟩
set_option maxRecDepth 100000 in
theorem cc_T_67 : zx_cv "StillPicture$Tile" 67 y_P_start M_P_start 1 := ⟨⟨zx_mem 606 rfl rfl, zx_mem 74 (by decide +kernel) rfl, ⟨by decide, by decide, by decide +kernel⟩, Or.inl (zx_mem 603 (by decide +kernel) rfl)⟩, zx_mem 604 (by decide +kernel) rfl, zx_mem 605 (by decide +kernel) rfl⟩
set_option maxRecDepth 100000 in
theorem cc_T_78 : zx_cv "StillPicture$Tile" 78 y_T_readSide M_T_readSide 1 := ⟨⟨zx_mem 610 rfl rfl, zx_mem 75 (by decide +kernel) rfl, ⟨by decide, by decide, by decide +kernel⟩, Or.inl (zx_mem 607 (by decide +kernel) rfl)⟩, zx_mem 609 (by decide +kernel) rfl, zx_memS 12 (by decide +kernel) rfl⟩
set_option maxRecDepth 100000 in
theorem cc_T_93 : zx_cv "StillPicture$Tile" 93 y_C_readSymbol M_C_readSymbol 1 := ⟨⟨zx_mem 614 rfl rfl, zx_mem 73 (by decide +kernel) rfl, ⟨by decide, by decide, by decide +kernel⟩, Or.inl (zx_mem 611 (by decide +kernel) rfl)⟩, zx_mem 612 (by decide +kernel) rfl, zx_mem 613 (by decide +kernel) rfl⟩
set_option maxRecDepth 100000 in
theorem cc_C_64 : zx_cv "StillPicture$Coder" 64 y_C_narrow M_C_narrow 2 := ⟨⟨zx_mem 618 rfl rfl, zx_mem 73 (by decide +kernel) rfl, ⟨by decide, by decide, by decide +kernel⟩, Or.inl (zx_mem 615 (by decide +kernel) rfl)⟩, zx_mem 617 (by decide +kernel) rfl, zx_memS 13 (by decide +kernel) rfl⟩
set_option maxRecDepth 100000 in
theorem cc_C_68 : zx_cv "StillPicture$Coder" 68 y_C_adapt M_C_adapt 2 := ⟨⟨zx_mem 622 rfl rfl, zx_mem 73 (by decide +kernel) rfl, ⟨by decide, by decide, by decide +kernel⟩, Or.inl (zx_mem 619 (by decide +kernel) rfl)⟩, zx_mem 621 (by decide +kernel) rfl, zx_memS 14 (by decide +kernel) rfl⟩
set_option maxRecDepth 100000 in
theorem cc_T_82 : zx_cv "StillPicture$Tile" 82 y_T_readBlock M_T_readBlock 3 := ⟨⟨zx_mem 626 rfl rfl, zx_mem 75 (by decide +kernel) rfl, ⟨by decide, by decide, by decide +kernel⟩, Or.inl (zx_mem 623 (by decide +kernel) rfl)⟩, zx_mem 625 (by decide +kernel) rfl, zx_memS 15 (by decide +kernel) rfl⟩
set_option maxRecDepth 100000 in
theorem cc_T_96 : zx_cv "StillPicture$Tile" 96 y_P_ownerAt M_P_ownerAt 2 := ⟨⟨zx_mem 630 rfl rfl, zx_mem 74 (by decide +kernel) rfl, ⟨by decide, by decide, by decide +kernel⟩, Or.inl (zx_mem 627 (by decide +kernel) rfl)⟩, zx_mem 628 (by decide +kernel) rfl, zx_mem 629 (by decide +kernel) rfl⟩
set_option maxRecDepth 100000 in
theorem cc_T_100 : zx_cv "StillPicture$Tile" 100 y_P_tellOf M_P_tellOf 2 := ⟨⟨zx_mem 634 rfl rfl, zx_mem 74 (by decide +kernel) rfl, ⟨by decide, by decide, by decide +kernel⟩, Or.inl (zx_mem 631 (by decide +kernel) rfl)⟩, zx_mem 632 (by decide +kernel) rfl, zx_mem 633 (by decide +kernel) rfl⟩
set_option maxRecDepth 100000 in
theorem cc_T_103 : zx_cv "StillPicture$Tile" 103 y_P_addBlock M_P_addBlock 3 := ⟨⟨zx_mem 638 rfl rfl, zx_mem 74 (by decide +kernel) rfl, ⟨by decide, by decide, by decide +kernel⟩, Or.inl (zx_mem 635 (by decide +kernel) rfl)⟩, zx_mem 636 (by decide +kernel) rfl, zx_mem 637 (by decide +kernel) rfl⟩
set_option maxRecDepth 100000 in
theorem cc_T_106 : zx_cv "StillPicture$Tile" 106 y_P_tell M_P_tell 3 := ⟨⟨zx_mem 642 rfl rfl, zx_mem 74 (by decide +kernel) rfl, ⟨by decide, by decide, by decide +kernel⟩, Or.inl (zx_mem 639 (by decide +kernel) rfl)⟩, zx_mem 640 (by decide +kernel) rfl, zx_mem 641 (by decide +kernel) rfl⟩
set_option maxRecDepth 100000 in
theorem cc_T_89 : zx_cv "StillPicture$Tile" 89 y_T_readUnits M_T_readUnits 4 := ⟨⟨zx_mem 646 rfl rfl, zx_mem 75 (by decide +kernel) rfl, ⟨by decide, by decide, by decide +kernel⟩, Or.inl (zx_mem 643 (by decide +kernel) rfl)⟩, zx_mem 645 (by decide +kernel) rfl, zx_memS 16 (by decide +kernel) rfl⟩
set_option maxRecDepth 100000 in
theorem cc_T_113 : zx_cv "StillPicture$Tile" 113 y_D_read M_D_read 3 := ⟨⟨zx_mem 650 rfl rfl, zx_mem 76 (by decide +kernel) rfl, ⟨by decide, by decide, by decide +kernel⟩, Or.inl (zx_mem 647 (by decide +kernel) rfl)⟩, zx_mem 648 (by decide +kernel) rfl, zx_mem 649 (by decide +kernel) rfl⟩
set_option maxRecDepth 100000 in
theorem cc_D_20 : zx_cs "StillPicture$Differences" 20 y_A_fill M_A_fill 2 := ⟨⟨zx_mem 595 rfl rfl, zx_mem 82 (by decide +kernel) rfl, ⟨by decide, by decide, by decide +kernel⟩, Or.inl (zx_mem 651 (by decide +kernel) rfl)⟩, zx_mem 594 (by decide +kernel) rfl⟩
set_option maxRecDepth 100000 in
theorem cc_D_26 : zx_cv "StillPicture$Differences" 26 y_C_readSymbol M_C_readSymbol 1 := ⟨⟨zx_mem 614 rfl rfl, zx_mem 73 (by decide +kernel) rfl, ⟨by decide, by decide, by decide +kernel⟩, Or.inl (zx_mem 652 (by decide +kernel) rfl)⟩, zx_mem 612 (by decide +kernel) rfl, zx_mem 613 (by decide +kernel) rfl⟩
set_option maxRecDepth 100000 in
theorem cc_D_32 : zx_cv "StillPicture$Differences" 32 y_C_readExcess M_C_readExcess 0 := ⟨⟨zx_mem 656 rfl rfl, zx_mem 73 (by decide +kernel) rfl, ⟨by decide, by decide, by decide +kernel⟩, Or.inl (zx_mem 653 (by decide +kernel) rfl)⟩, zx_mem 654 (by decide +kernel) rfl, zx_mem 655 (by decide +kernel) rfl⟩
set_option maxRecDepth 100000 in
theorem cc_C_71 : zx_cv "StillPicture$Coder" 71 y_C_readBit M_C_readBit 0 := ⟨⟨zx_mem 660 rfl rfl, zx_mem 73 (by decide +kernel) rfl, ⟨by decide, by decide, by decide +kernel⟩, Or.inl (zx_mem 657 (by decide +kernel) rfl)⟩, zx_mem 658 (by decide +kernel) rfl, zx_mem 659 (by decide +kernel) rfl⟩
set_option maxRecDepth 100000 in
theorem cc_D_36 : zx_cv "StillPicture$Differences" 36 y_C_readBit M_C_readBit 0 := ⟨⟨zx_mem 660 rfl rfl, zx_mem 73 (by decide +kernel) rfl, ⟨by decide, by decide, by decide +kernel⟩, Or.inl (zx_mem 661 (by decide +kernel) rfl)⟩, zx_mem 658 (by decide +kernel) rfl, zx_mem 659 (by decide +kernel) rfl⟩
set_option maxRecDepth 100000 in
theorem cc_D_42 : zx_cv "StillPicture$Differences" 42 y_D_mix M_D_mix 0 := ⟨⟨zx_mem 667 rfl rfl, zx_mem 76 (by decide +kernel) rfl, ⟨by decide, by decide, by decide +kernel⟩, Or.inl (zx_mem 664 (by decide +kernel) rfl)⟩, zx_mem 666 (by decide +kernel) rfl, zx_memS 17 (by decide +kernel) rfl⟩
set_option maxRecDepth 100000 in
theorem cc_D_49 : zx_cv "StillPicture$Differences" 49 y_D_mixLine M_D_mixLine 2 := ⟨⟨zx_mem 671 rfl rfl, zx_mem 76 (by decide +kernel) rfl, ⟨by decide, by decide, by decide +kernel⟩, Or.inl (zx_mem 668 (by decide +kernel) rfl)⟩, zx_mem 670 (by decide +kernel) rfl, zx_memS 18 (by decide +kernel) rfl⟩
set_option maxRecDepth 100000 in
theorem cc_D_45 : zx_cv "StillPicture$Differences" 45 y_D_transform M_D_transform 2 := ⟨⟨zx_mem 675 rfl rfl, zx_mem 76 (by decide +kernel) rfl, ⟨by decide, by decide, by decide +kernel⟩, Or.inl (zx_mem 672 (by decide +kernel) rfl)⟩, zx_mem 674 (by decide +kernel) rfl, zx_memS 19 (by decide +kernel) rfl⟩
set_option maxRecDepth 100000 in
theorem cc_D_52 : zx_cv "StillPicture$Differences" 52 y_D_limitAll M_D_limitAll 0 := ⟨⟨zx_mem 679 rfl rfl, zx_mem 76 (by decide +kernel) rfl, ⟨by decide, by decide, by decide +kernel⟩, Or.inl (zx_mem 676 (by decide +kernel) rfl)⟩, zx_mem 678 (by decide +kernel) rfl, zx_memS 20 (by decide +kernel) rfl⟩
set_option maxRecDepth 100000 in
theorem cc_D_59 : .methodLink "StillPicture$Differences" 59 Lib.Math.min.name ∈ zx_ws ∧ .static Lib.Math.min.name ∈ zx_ws ∧ .initialized "java/lang/Math" ∈ zx_ws ∧ .code Lib.Math.min.name Lib.Math.min.code 2 (some .int) ∈ zx_ws := ⟨zx_mem 680 (by decide +kernel) rfl, zx_mem 506 (by decide +kernel) rfl, zx_mem 80 (by decide +kernel) rfl, zx_mem 507 rfl rfl⟩
set_option maxRecDepth 100000 in
theorem cc_D_65 : .methodLink "StillPicture$Differences" 65 Lib.Math.max.name ∈ zx_ws ∧ .static Lib.Math.max.name ∈ zx_ws ∧ .initialized "java/lang/Math" ∈ zx_ws ∧ .code Lib.Math.max.name Lib.Math.max.code 2 (some .int) ∈ zx_ws := ⟨zx_mem 681 (by decide +kernel) rfl, zx_mem 503 (by decide +kernel) rfl, zx_mem 80 (by decide +kernel) rfl, zx_mem 504 rfl rfl⟩
set_option maxRecDepth 100000 in
theorem cc_D_55 : zx_cv "StillPicture$Differences" 55 y_D_transformLine M_D_transformLine 3 := ⟨⟨zx_mem 685 rfl rfl, zx_mem 76 (by decide +kernel) rfl, ⟨by decide, by decide, by decide +kernel⟩, Or.inl (zx_mem 682 (by decide +kernel) rfl)⟩, zx_mem 684 (by decide +kernel) rfl, zx_memS 21 (by decide +kernel) rfl⟩
set_option maxRecDepth 100000 in
theorem cc_T_117 : zx_cv "StillPicture$Tile" 117 y_E_make M_E_make 5 := ⟨⟨zx_mem 691 rfl rfl, zx_mem 77 (by decide +kernel) rfl, ⟨by decide, by decide, by decide +kernel⟩, Or.inl (zx_mem 688 (by decide +kernel) rfl)⟩, zx_mem 689 (by decide +kernel) rfl, zx_mem 690 (by decide +kernel) rfl⟩
set_option maxRecDepth 100000 in
theorem cc_E_23 : zx_cv "StillPicture$Prediction" 23 y_E_look M_E_look 3 := ⟨⟨zx_mem 695 rfl rfl, zx_mem 77 (by decide +kernel) rfl, ⟨by decide, by decide, by decide +kernel⟩, Or.inl (zx_mem 692 (by decide +kernel) rfl)⟩, zx_mem 694 (by decide +kernel) rfl, zx_memS 22 (by decide +kernel) rfl⟩
set_option maxRecDepth 100000 in
theorem cc_E_35 : zx_cs "StillPicture$Prediction" 35 y_P_placeOf M_P_placeOf 3 := ⟨⟨zx_mem 698 rfl rfl, zx_mem 74 (by decide +kernel) rfl, ⟨by decide, by decide, by decide +kernel⟩, Or.inl (zx_mem 696 (by decide +kernel) rfl)⟩, zx_mem 697 (by decide +kernel) rfl⟩
set_option maxRecDepth 100000 in
theorem cc_E_47 : zx_cv "StillPicture$Prediction" 47 y_P_middle M_P_middle 0 := ⟨⟨zx_mem 702 rfl rfl, zx_mem 74 (by decide +kernel) rfl, ⟨by decide, by decide, by decide +kernel⟩, Or.inl (zx_mem 699 (by decide +kernel) rfl)⟩, zx_mem 700 (by decide +kernel) rfl, zx_mem 701 (by decide +kernel) rfl⟩
set_option maxRecDepth 100000 in
theorem cc_E_31 : zx_cv "StillPicture$Prediction" 31 y_E_predicted M_E_predicted 3 := ⟨⟨zx_mem 706 rfl rfl, zx_mem 77 (by decide +kernel) rfl, ⟨by decide, by decide, by decide +kernel⟩, Or.inl (zx_mem 703 (by decide +kernel) rfl)⟩, zx_mem 705 (by decide +kernel) rfl, zx_memS 23 (by decide +kernel) rfl⟩
set_option maxRecDepth 100000 in
theorem cc_E_61 : .methodLink "StillPicture$Prediction" 61 Lib.Math.min.name ∈ zx_ws ∧ .static Lib.Math.min.name ∈ zx_ws ∧ .initialized "java/lang/Math" ∈ zx_ws ∧ .code Lib.Math.min.name Lib.Math.min.code 2 (some .int) ∈ zx_ws := ⟨zx_mem 718 (by decide +kernel) rfl, zx_mem 506 (by decide +kernel) rfl, zx_mem 80 (by decide +kernel) rfl, zx_mem 507 rfl rfl⟩
set_option maxRecDepth 100000 in
theorem cc_E_58 : zx_cv "StillPicture$Prediction" 58 y_E_blended M_E_blended 2 := ⟨⟨zx_mem 717 rfl rfl, zx_mem 77 (by decide +kernel) rfl, ⟨by decide, by decide, by decide +kernel⟩, Or.inl (zx_mem 714 (by decide +kernel) rfl)⟩, zx_mem 716 (by decide +kernel) rfl, zx_memS 25 (by decide +kernel) rfl⟩
set_option maxRecDepth 100000 in
theorem cc_E_54 : zx_cv "StillPicture$Prediction" 54 y_E_nearest M_E_nearest 2 := ⟨⟨zx_mem 710 rfl rfl, zx_mem 77 (by decide +kernel) rfl, ⟨by decide, by decide, by decide +kernel⟩, Or.inl (zx_mem 707 (by decide +kernel) rfl)⟩, zx_mem 709 (by decide +kernel) rfl, zx_memS 24 (by decide +kernel) rfl⟩
set_option maxRecDepth 100000 in
theorem cc_E_66 : .methodLink "StillPicture$Prediction" 66 Lib.Math.abs.name ∈ zx_ws ∧ .static Lib.Math.abs.name ∈ zx_ws ∧ .initialized "java/lang/Math" ∈ zx_ws ∧ .code Lib.Math.abs.name Lib.Math.abs.code 1 (some .int) ∈ zx_ws := ⟨zx_mem 711 (by decide +kernel) rfl, zx_mem 712 (by decide +kernel) rfl, zx_mem 80 (by decide +kernel) rfl, zx_mem 713 rfl rfl⟩
set_option maxRecDepth 100000 in
theorem cc_E_40 : zx_cv "StillPicture$Prediction" 40 y_E_addShare M_E_addShare 2 := ⟨⟨zx_mem 722 rfl rfl, zx_mem 77 (by decide +kernel) rfl, ⟨by decide, by decide, by decide +kernel⟩, Or.inl (zx_mem 719 (by decide +kernel) rfl)⟩, zx_mem 721 (by decide +kernel) rfl, zx_memS 26 (by decide +kernel) rfl⟩
set_option maxRecDepth 100000 in
theorem cc_E_70 : zx_cv "StillPicture$Prediction" 70 y_P_limited M_P_limited 1 := ⟨⟨zx_mem 726 rfl rfl, zx_mem 74 (by decide +kernel) rfl, ⟨by decide, by decide, by decide +kernel⟩, Or.inl (zx_mem 723 (by decide +kernel) rfl)⟩, zx_mem 724 (by decide +kernel) rfl, zx_mem 725 (by decide +kernel) rfl⟩
set_option maxRecDepth 100000 in
theorem cc_P_26 : .methodLink "StillPicture$Picture" 26 Lib.Math.min.name ∈ zx_ws ∧ .static Lib.Math.min.name ∈ zx_ws ∧ .initialized "java/lang/Math" ∈ zx_ws ∧ .code Lib.Math.min.name Lib.Math.min.code 2 (some .int) ∈ zx_ws := ⟨zx_mem 727 (by decide +kernel) rfl, zx_mem 506 (by decide +kernel) rfl, zx_mem 80 (by decide +kernel) rfl, zx_mem 507 rfl rfl⟩
set_option maxRecDepth 100000 in
theorem cc_P_32 : .methodLink "StillPicture$Picture" 32 Lib.Math.max.name ∈ zx_ws ∧ .static Lib.Math.max.name ∈ zx_ws ∧ .initialized "java/lang/Math" ∈ zx_ws ∧ .code Lib.Math.max.name Lib.Math.max.code 2 (some .int) ∈ zx_ws := ⟨zx_mem 728 (by decide +kernel) rfl, zx_mem 503 (by decide +kernel) rfl, zx_mem 80 (by decide +kernel) rfl, zx_mem 504 rfl rfl⟩
set_option maxRecDepth 100000 in
theorem cc_T_121 : zx_cs "StillPicture$Tile" 121 y_P_placeOf M_P_placeOf 3 := ⟨⟨zx_mem 698 rfl rfl, zx_mem 74 (by decide +kernel) rfl, ⟨by decide, by decide, by decide +kernel⟩, Or.inl (zx_mem 729 (by decide +kernel) rfl)⟩, zx_mem 697 (by decide +kernel) rfl⟩
set_option maxRecDepth 100000 in
theorem cc_T_124 : zx_cv "StillPicture$Tile" 124 y_T_mend M_T_mend 1 := ⟨⟨zx_mem 733 rfl rfl, zx_mem 75 (by decide +kernel) rfl, ⟨by decide, by decide, by decide +kernel⟩, Or.inl (zx_mem 730 (by decide +kernel) rfl)⟩, zx_mem 732 (by decide +kernel) rfl, zx_memS 27 (by decide +kernel) rfl⟩
set_option maxRecDepth 100000 in
theorem cc_T_134 : zx_cv "StillPicture$Tile" 134 y_P_limited M_P_limited 1 := ⟨⟨zx_mem 726 rfl rfl, zx_mem 74 (by decide +kernel) rfl, ⟨by decide, by decide, by decide +kernel⟩, Or.inl (zx_mem 734 (by decide +kernel) rfl)⟩, zx_mem 724 (by decide +kernel) rfl, zx_mem 725 (by decide +kernel) rfl⟩
set_option maxRecDepth 100000 in
theorem cc_S_98 : zx_cv "StillPicture" 98 y_F_run M_F_run 0 := ⟨⟨zx_mem 738 rfl rfl, zx_mem 78 (by decide +kernel) rfl, ⟨by decide, by decide, by decide +kernel⟩, Or.inl (zx_mem 735 (by decide +kernel) rfl)⟩, zx_mem 736 (by decide +kernel) rfl, zx_mem 737 (by decide +kernel) rfl⟩
set_option maxRecDepth 100000 in
theorem cc_F_35 : zx_cv "StillPicture$Filter" 35 y_F_smoothColumns M_F_smoothColumns 2 := ⟨⟨zx_mem 742 rfl rfl, zx_mem 78 (by decide +kernel) rfl, ⟨by decide, by decide, by decide +kernel⟩, Or.inl (zx_mem 739 (by decide +kernel) rfl)⟩, zx_mem 741 (by decide +kernel) rfl, zx_memS 28 (by decide +kernel) rfl⟩
set_option maxRecDepth 100000 in
theorem cc_F_54 : zx_cv "StillPicture$Filter" 54 y_P_ownerAt M_P_ownerAt 2 := ⟨⟨zx_mem 630 rfl rfl, zx_mem 74 (by decide +kernel) rfl, ⟨by decide, by decide, by decide +kernel⟩, Or.inl (zx_mem 743 (by decide +kernel) rfl)⟩, zx_mem 628 (by decide +kernel) rfl, zx_mem 629 (by decide +kernel) rfl⟩
set_option maxRecDepth 100000 in
theorem cc_F_58 : zx_cs "StillPicture$Filter" 58 y_P_placeOf M_P_placeOf 3 := ⟨⟨zx_mem 698 rfl rfl, zx_mem 74 (by decide +kernel) rfl, ⟨by decide, by decide, by decide +kernel⟩, Or.inl (zx_mem 744 (by decide +kernel) rfl)⟩, zx_mem 697 (by decide +kernel) rfl⟩
set_option maxRecDepth 100000 in
theorem cc_F_62 : zx_cv "StillPicture$Filter" 62 y_F_smooth M_F_smooth 3 := ⟨⟨zx_mem 748 rfl rfl, zx_mem 78 (by decide +kernel) rfl, ⟨by decide, by decide, by decide +kernel⟩, Or.inl (zx_mem 745 (by decide +kernel) rfl)⟩, zx_mem 747 (by decide +kernel) rfl, zx_memS 29 (by decide +kernel) rfl⟩
set_option maxRecDepth 100000 in
theorem cc_F_69 : .methodLink "StillPicture$Filter" 69 Lib.Math.abs.name ∈ zx_ws ∧ .static Lib.Math.abs.name ∈ zx_ws ∧ .initialized "java/lang/Math" ∈ zx_ws ∧ .code Lib.Math.abs.name Lib.Math.abs.code 1 (some .int) ∈ zx_ws := ⟨zx_mem 749 (by decide +kernel) rfl, zx_mem 712 (by decide +kernel) rfl, zx_mem 80 (by decide +kernel) rfl, zx_mem 713 rfl rfl⟩
set_option maxRecDepth 100000 in
theorem cc_F_75 : .methodLink "StillPicture$Filter" 75 Lib.Math.min.name ∈ zx_ws ∧ .static Lib.Math.min.name ∈ zx_ws ∧ .initialized "java/lang/Math" ∈ zx_ws ∧ .code Lib.Math.min.name Lib.Math.min.code 2 (some .int) ∈ zx_ws := ⟨zx_mem 750 (by decide +kernel) rfl, zx_mem 506 (by decide +kernel) rfl, zx_mem 80 (by decide +kernel) rfl, zx_mem 507 rfl rfl⟩
set_option maxRecDepth 100000 in
theorem cc_F_78 : .methodLink "StillPicture$Filter" 78 Lib.Math.max.name ∈ zx_ws ∧ .static Lib.Math.max.name ∈ zx_ws ∧ .initialized "java/lang/Math" ∈ zx_ws ∧ .code Lib.Math.max.name Lib.Math.max.code 2 (some .int) ∈ zx_ws := ⟨zx_mem 751 (by decide +kernel) rfl, zx_mem 503 (by decide +kernel) rfl, zx_mem 80 (by decide +kernel) rfl, zx_mem 504 rfl rfl⟩
set_option maxRecDepth 100000 in
theorem cc_F_81 : zx_cv "StillPicture$Filter" 81 y_P_limited M_P_limited 1 := ⟨⟨zx_mem 726 rfl rfl, zx_mem 74 (by decide +kernel) rfl, ⟨by decide, by decide, by decide +kernel⟩, Or.inl (zx_mem 752 (by decide +kernel) rfl)⟩, zx_mem 724 (by decide +kernel) rfl, zx_mem 725 (by decide +kernel) rfl⟩
set_option maxRecDepth 100000 in
theorem cc_F_39 : zx_cv "StillPicture$Filter" 39 y_F_smoothRows M_F_smoothRows 2 := ⟨⟨zx_mem 756 rfl rfl, zx_mem 78 (by decide +kernel) rfl, ⟨by decide, by decide, by decide +kernel⟩, Or.inl (zx_mem 753 (by decide +kernel) rfl)⟩, zx_mem 755 (by decide +kernel) rfl, zx_memS 30 (by decide +kernel) rfl⟩
set_option maxRecDepth 100000 in
theorem cc_F_45 : zx_cv "StillPicture$Filter" 45 y_F_soften M_F_soften 2 := ⟨⟨zx_mem 760 rfl rfl, zx_mem 78 (by decide +kernel) rfl, ⟨by decide, by decide, by decide +kernel⟩, Or.inl (zx_mem 757 (by decide +kernel) rfl)⟩, zx_mem 759 (by decide +kernel) rfl, zx_memS 31 (by decide +kernel) rfl⟩
set_option maxRecDepth 100000 in
theorem cc_F_84 : zx_cs "StillPicture$Filter" 84 y_F_pull M_F_pull 2 := ⟨⟨zx_mem 763 rfl rfl, zx_mem 78 (by decide +kernel) rfl, ⟨by decide, by decide, by decide +kernel⟩, Or.inl (zx_mem 761 (by decide +kernel) rfl)⟩, zx_mem 762 (by decide +kernel) rfl⟩
set_option maxRecDepth 100000 in
theorem cc_F_87 : .methodLink "StillPicture$Filter" 87 arraycopyName ∈ zx_ws ∧ .native arraycopyName ∈ zx_ws ∧ .static arraycopyName ∈ zx_ws ∧ .initialized "java/lang/System" ∈ zx_ws := ⟨zx_mem 764 (by decide +kernel) rfl, zx_mem 518 (by decide +kernel) rfl, zx_mem 517 (by decide +kernel) rfl, zx_mem 81 (by decide +kernel) rfl⟩
set_option maxRecDepth 100000 in
theorem cc_S_113 : zx_cv "StillPicture" 113 y_S_isInPicture M_S_isInPicture 2 := ⟨⟨zx_mem 788 rfl rfl, zx_mem 68 (by decide +kernel) rfl, ⟨by decide, by decide, by decide +kernel⟩, Or.inl (zx_mem 785 (by decide +kernel) rfl)⟩, zx_mem 787 (by decide +kernel) rfl, zx_memS 32 (by decide +kernel) rfl⟩
set_option maxRecDepth 100000 in
theorem cc_S_120 : zx_cs "StillPicture" 120 y_P_placeOf M_P_placeOf 3 := ⟨⟨zx_mem 698 rfl rfl, zx_mem 74 (by decide +kernel) rfl, ⟨by decide, by decide, by decide +kernel⟩, Or.inl (zx_mem 789 (by decide +kernel) rfl)⟩, zx_mem 697 (by decide +kernel) rfl⟩
set_option maxRecDepth 100000 in
theorem cc_S_124 : zx_cv "StillPicture" 124 y_P_ownerAt M_P_ownerAt 2 := ⟨⟨zx_mem 630 rfl rfl, zx_mem 74 (by decide +kernel) rfl, ⟨by decide, by decide, by decide +kernel⟩, Or.inl (zx_mem 794 (by decide +kernel) rfl)⟩, zx_mem 628 (by decide +kernel) rfl, zx_mem 629 (by decide +kernel) rfl⟩
set_option maxRecDepth 100000 in
theorem cc_S_128 : zx_cv "StillPicture" 128 y_P_tellOf M_P_tellOf 2 := ⟨⟨zx_mem 634 rfl rfl, zx_mem 74 (by decide +kernel) rfl, ⟨by decide, by decide, by decide +kernel⟩, Or.inl (zx_mem 795 (by decide +kernel) rfl)⟩, zx_mem 632 (by decide +kernel) rfl, zx_mem 633 (by decide +kernel) rfl⟩
set_option maxRecDepth 100000 in
theorem cc_S_140 : zx_cv "StillPicture" 140 y_C_numberOf M_C_numberOf 2 := ⟨⟨zx_mem 815 rfl rfl, zx_mem 73 (by decide +kernel) rfl, ⟨by decide, by decide, by decide +kernel⟩, Or.inl (zx_mem 812 (by decide +kernel) rfl)⟩, zx_mem 813 (by decide +kernel) rfl, zx_mem 814 (by decide +kernel) rfl⟩
set_option maxRecDepth 100000 in
theorem cc_M_74 : zx_cv "StillPictureModel" 74 y_M_add M_M_add 1 := ⟨⟨zx_mem 967 rfl rfl, zx_mem 79 (by decide +kernel) rfl, ⟨by decide, by decide, by decide +kernel⟩, Or.inl (zx_mem 972 (by decide +kernel) rfl)⟩, zx_mem 965 (by decide +kernel) rfl, zx_mem 966 (by decide +kernel) rfl⟩
set_option maxRecDepth 100000 in
theorem cc_M_81 : zx_cv "StillPictureModel" 81 y_M_split M_M_split 0 := ⟨⟨zx_mem 992 rfl rfl, zx_mem 79 (by decide +kernel) rfl, ⟨by decide, by decide, by decide +kernel⟩, Or.inl (zx_mem 989 (by decide +kernel) rfl)⟩, zx_mem 991 (by decide +kernel) rfl, zx_memS 33 (by decide +kernel) rfl⟩
set_option maxRecDepth 100000 in
theorem cc_M_115 : zx_cv "StillPictureModel" 115 y_M_stretch M_M_stretch 4 := ⟨⟨zx_mem 996 rfl rfl, zx_mem 79 (by decide +kernel) rfl, ⟨by decide, by decide, by decide +kernel⟩, Or.inl (zx_mem 993 (by decide +kernel) rfl)⟩, zx_mem 995 (by decide +kernel) rfl, zx_memS 34 (by decide +kernel) rfl⟩
set_option maxRecDepth 100000 in
theorem cc_M_119 : zx_cv "StillPictureModel" 119 y_M_fail M_M_fail 1 := ⟨⟨zx_mem 1000 rfl rfl, zx_mem 79 (by decide +kernel) rfl, ⟨by decide, by decide, by decide +kernel⟩, Or.inl (zx_mem 997 (by decide +kernel) rfl)⟩, zx_mem 999 (by decide +kernel) rfl, zx_memS 35 (by decide +kernel) rfl⟩
set_option maxRecDepth 100000 in
theorem cc_M_84 : zx_cv "StillPictureModel" 84 y_M_brand M_M_brand 0 := ⟨⟨zx_mem 1004 rfl rfl, zx_mem 79 (by decide +kernel) rfl, ⟨by decide, by decide, by decide +kernel⟩, Or.inl (zx_mem 1001 (by decide +kernel) rfl)⟩, zx_mem 1003 (by decide +kernel) rfl, zx_memS 36 (by decide +kernel) rfl⟩
set_option maxRecDepth 100000 in
theorem cc_M_87 : zx_cv "StillPictureModel" 87 y_M_child M_M_child 2 := ⟨⟨zx_mem 1008 rfl rfl, zx_mem 79 (by decide +kernel) rfl, ⟨by decide, by decide, by decide +kernel⟩, Or.inl (zx_mem 1005 (by decide +kernel) rfl)⟩, zx_mem 1007 (by decide +kernel) rfl, zx_memS 37 (by decide +kernel) rfl⟩
set_option maxRecDepth 100000 in
theorem cc_M_91 : zx_cv "StillPictureModel" 91 y_M_extents M_M_extents 2 := ⟨⟨zx_mem 1012 rfl rfl, zx_mem 79 (by decide +kernel) rfl, ⟨by decide, by decide, by decide +kernel⟩, Or.inl (zx_mem 1009 (by decide +kernel) rfl)⟩, zx_mem 1011 (by decide +kernel) rfl, zx_memS 38 (by decide +kernel) rfl⟩
set_option maxRecDepth 100000 in
theorem cc_M_132 : zx_cv "StillPictureModel" 132 y_M_take M_M_take 0 := ⟨⟨zx_mem 1016 rfl rfl, zx_mem 79 (by decide +kernel) rfl, ⟨by decide, by decide, by decide +kernel⟩, Or.inl (zx_mem 1013 (by decide +kernel) rfl)⟩, zx_mem 1015 (by decide +kernel) rfl, zx_memS 39 (by decide +kernel) rfl⟩
set_option maxRecDepth 100000 in
theorem cc_M_136 : zx_cv "StillPictureModel" 136 y_M_gather M_M_gather 2 := ⟨⟨zx_mem 1020 rfl rfl, zx_mem 79 (by decide +kernel) rfl, ⟨by decide, by decide, by decide +kernel⟩, Or.inl (zx_mem 1017 (by decide +kernel) rfl)⟩, zx_mem 1019 (by decide +kernel) rfl, zx_memS 40 (by decide +kernel) rfl⟩
set_option maxRecDepth 100000 in
theorem cc_M_95 : zx_cv "StillPictureModel" 95 y_M_properties M_M_properties 3 := ⟨⟨zx_mem 1024 rfl rfl, zx_mem 79 (by decide +kernel) rfl, ⟨by decide, by decide, by decide +kernel⟩, Or.inl (zx_mem 1021 (by decide +kernel) rfl)⟩, zx_mem 1023 (by decide +kernel) rfl, zx_memS 41 (by decide +kernel) rfl⟩
set_option maxRecDepth 100000 in
theorem cc_M_148 : zx_cv "StillPictureModel" 148 y_M_property M_M_property 2 := ⟨⟨zx_mem 1028 rfl rfl, zx_mem 79 (by decide +kernel) rfl, ⟨by decide, by decide, by decide +kernel⟩, Or.inl (zx_mem 1025 (by decide +kernel) rfl)⟩, zx_mem 1027 (by decide +kernel) rfl, zx_memS 42 (by decide +kernel) rfl⟩
set_option maxRecDepth 100000 in
theorem cc_M_151 : zx_cv "StillPictureModel" 151 y_M_associate M_M_associate 2 := ⟨⟨zx_mem 1032 rfl rfl, zx_mem 79 (by decide +kernel) rfl, ⟨by decide, by decide, by decide +kernel⟩, Or.inl (zx_mem 1029 (by decide +kernel) rfl)⟩, zx_mem 1031 (by decide +kernel) rfl, zx_memS 43 (by decide +kernel) rfl⟩
set_option maxRecDepth 100000 in
theorem cc_M_99 : zx_cv "StillPictureModel" 99 y_M_units M_M_units 0 := ⟨⟨zx_mem 1036 rfl rfl, zx_mem 79 (by decide +kernel) rfl, ⟨by decide, by decide, by decide +kernel⟩, Or.inl (zx_mem 1033 (by decide +kernel) rfl)⟩, zx_mem 1035 (by decide +kernel) rfl, zx_memS 44 (by decide +kernel) rfl⟩
set_option maxRecDepth 100000 in
theorem cc_M_155 : zx_cv "StillPictureModel" 155 y_M_sequence M_M_sequence 0 := ⟨⟨zx_mem 1040 rfl rfl, zx_mem 79 (by decide +kernel) rfl, ⟨by decide, by decide, by decide +kernel⟩, Or.inl (zx_mem 1037 (by decide +kernel) rfl)⟩, zx_mem 1039 (by decide +kernel) rfl, zx_memS 45 (by decide +kernel) rfl⟩
set_option maxRecDepth 100000 in
theorem cc_M_161 : zx_cv "StillPictureModel" 161 y_M_number M_M_number 1 := ⟨⟨zx_mem 1044 rfl rfl, zx_mem 79 (by decide +kernel) rfl, ⟨by decide, by decide, by decide +kernel⟩, Or.inl (zx_mem 1041 (by decide +kernel) rfl)⟩, zx_mem 1043 (by decide +kernel) rfl, zx_memS 46 (by decide +kernel) rfl⟩
set_option maxRecDepth 100000 in
theorem cc_M_177 : zx_cv "StillPictureModel" 177 y_M_barred M_M_barred 1 := ⟨⟨zx_mem 1048 rfl rfl, zx_mem 79 (by decide +kernel) rfl, ⟨by decide, by decide, by decide +kernel⟩, Or.inl (zx_mem 1045 (by decide +kernel) rfl)⟩, zx_mem 1047 (by decide +kernel) rfl, zx_memS 47 (by decide +kernel) rfl⟩
set_option maxRecDepth 100000 in
theorem cc_M_158 : zx_cv "StillPictureModel" 158 y_M_frame M_M_frame 0 := ⟨⟨zx_mem 1052 rfl rfl, zx_mem 79 (by decide +kernel) rfl, ⟨by decide, by decide, by decide +kernel⟩, Or.inl (zx_mem 1049 (by decide +kernel) rfl)⟩, zx_mem 1051 (by decide +kernel) rfl, zx_memS 48 (by decide +kernel) rfl⟩
set_option maxRecDepth 100000 in
theorem cc_M_102 : zx_cv "StillPictureModel" 102 y_M_readTile M_M_readTile 0 := ⟨⟨zx_mem 1056 rfl rfl, zx_mem 79 (by decide +kernel) rfl, ⟨by decide, by decide, by decide +kernel⟩, Or.inl (zx_mem 1053 (by decide +kernel) rfl)⟩, zx_mem 1055 (by decide +kernel) rfl, zx_memS 49 (by decide +kernel) rfl⟩
set_option maxRecDepth 100000 in
theorem cc_M_213 : zx_cv "StillPictureModel" 213 y_M_nextBit M_M_nextBit 0 := ⟨⟨zx_mem 1060 rfl rfl, zx_mem 79 (by decide +kernel) rfl, ⟨by decide, by decide, by decide +kernel⟩, Or.inl (zx_mem 1057 (by decide +kernel) rfl)⟩, zx_mem 1059 (by decide +kernel) rfl, zx_memS 50 (by decide +kernel) rfl⟩
set_option maxRecDepth 100000 in
theorem cc_M_216 : zx_cs "StillPictureModel" 216 y_M_tableSize M_M_tableSize 1 := ⟨⟨zx_mem 1064 rfl rfl, zx_mem 79 (by decide +kernel) rfl, ⟨by decide, by decide, by decide +kernel⟩, Or.inl (zx_mem 1062 (by decide +kernel) rfl)⟩, zx_mem 1063 (by decide +kernel) rfl⟩
set_option maxRecDepth 100000 in
theorem cc_M_226 : zx_cv "StillPictureModel" 226 y_M_symbol M_M_symbol 1 := ⟨⟨zx_mem 1068 rfl rfl, zx_mem 79 (by decide +kernel) rfl, ⟨by decide, by decide, by decide +kernel⟩, Or.inl (zx_mem 1065 (by decide +kernel) rfl)⟩, zx_mem 1067 (by decide +kernel) rfl, zx_memS 51 (by decide +kernel) rfl⟩
set_option maxRecDepth 100000 in
theorem cc_M_219 : zx_cv "StillPictureModel" 219 y_M_narrow M_M_narrow 2 := ⟨⟨zx_mem 1072 rfl rfl, zx_mem 79 (by decide +kernel) rfl, ⟨by decide, by decide, by decide +kernel⟩, Or.inl (zx_mem 1069 (by decide +kernel) rfl)⟩, zx_mem 1071 (by decide +kernel) rfl, zx_memS 52 (by decide +kernel) rfl⟩
set_option maxRecDepth 100000 in
theorem cc_M_229 : zx_cv "StillPictureModel" 229 y_M_readBlock M_M_readBlock 3 := ⟨⟨zx_mem 1076 rfl rfl, zx_mem 79 (by decide +kernel) rfl, ⟨by decide, by decide, by decide +kernel⟩, Or.inl (zx_mem 1073 (by decide +kernel) rfl)⟩, zx_mem 1075 (by decide +kernel) rfl, zx_memS 53 (by decide +kernel) rfl⟩
set_option maxRecDepth 100000 in
theorem cc_M_232 : zx_cv "StillPictureModel" 232 y_M_piece M_M_piece 3 := ⟨⟨zx_mem 1080 rfl rfl, zx_mem 79 (by decide +kernel) rfl, ⟨by decide, by decide, by decide +kernel⟩, Or.inl (zx_mem 1077 (by decide +kernel) rfl)⟩, zx_mem 1079 (by decide +kernel) rfl, zx_memS 54 (by decide +kernel) rfl⟩
set_option maxRecDepth 100000 in
theorem cc_M_235 : zx_cv "StillPictureModel" 235 y_M_differences M_M_differences 1 := ⟨⟨zx_mem 1084 rfl rfl, zx_mem 79 (by decide +kernel) rfl, ⟨by decide, by decide, by decide +kernel⟩, Or.inl (zx_mem 1081 (by decide +kernel) rfl)⟩, zx_mem 1083 (by decide +kernel) rfl, zx_memS 55 (by decide +kernel) rfl⟩
set_option maxRecDepth 100000 in
theorem cc_M_254 : zx_cv "StillPictureModel" 254 y_M_more M_M_more 0 := ⟨⟨zx_mem 1088 rfl rfl, zx_mem 79 (by decide +kernel) rfl, ⟨by decide, by decide, by decide +kernel⟩, Or.inl (zx_mem 1085 (by decide +kernel) rfl)⟩, zx_mem 1087 (by decide +kernel) rfl, zx_memS 56 (by decide +kernel) rfl⟩
set_option maxRecDepth 100000 in
theorem cc_M_257 : zx_cv "StillPictureModel" 257 y_M_bit M_M_bit 0 := ⟨⟨zx_mem 1092 rfl rfl, zx_mem 79 (by decide +kernel) rfl, ⟨by decide, by decide, by decide +kernel⟩, Or.inl (zx_mem 1089 (by decide +kernel) rfl)⟩, zx_mem 1091 (by decide +kernel) rfl, zx_memS 57 (by decide +kernel) rfl⟩
set_option maxRecDepth 100000 in
theorem cc_M_260 : zx_cs "StillPictureModel" 260 y_M_limited M_M_limited 2 := ⟨⟨zx_mem 1095 rfl rfl, zx_mem 79 (by decide +kernel) rfl, ⟨by decide, by decide, by decide +kernel⟩, Or.inl (zx_mem 1093 (by decide +kernel) rfl)⟩, zx_mem 1094 (by decide +kernel) rfl⟩
set_option maxRecDepth 100000 in
theorem cc_M_263 : zx_cv "StillPictureModel" 263 y_M_turn M_M_turn 4 := ⟨⟨zx_mem 1099 rfl rfl, zx_mem 79 (by decide +kernel) rfl, ⟨by decide, by decide, by decide +kernel⟩, Or.inl (zx_mem 1096 (by decide +kernel) rfl)⟩, zx_mem 1098 (by decide +kernel) rfl, zx_memS 58 (by decide +kernel) rfl⟩
set_option maxRecDepth 100000 in
theorem cc_M_238 : zx_cv "StillPictureModel" 238 y_M_edges M_M_edges 3 := ⟨⟨zx_mem 1104 rfl rfl, zx_mem 79 (by decide +kernel) rfl, ⟨by decide, by decide, by decide +kernel⟩, Or.inl (zx_mem 1101 (by decide +kernel) rfl)⟩, zx_mem 1103 (by decide +kernel) rfl, zx_memS 59 (by decide +kernel) rfl⟩
set_option maxRecDepth 100000 in
theorem cc_M_241 : zx_cv "StillPictureModel" 241 y_M_predicted M_M_predicted 3 := ⟨⟨zx_mem 1108 rfl rfl, zx_mem 79 (by decide +kernel) rfl, ⟨by decide, by decide, by decide +kernel⟩, Or.inl (zx_mem 1105 (by decide +kernel) rfl)⟩, zx_mem 1107 (by decide +kernel) rfl, zx_memS 60 (by decide +kernel) rfl⟩
set_option maxRecDepth 100000 in
theorem cc_M_251 : zx_cs "StillPictureModel" 251 y_M_far M_M_far 2 := ⟨⟨zx_mem 1111 rfl rfl, zx_mem 79 (by decide +kernel) rfl, ⟨by decide, by decide, by decide +kernel⟩, Or.inl (zx_mem 1109 (by decide +kernel) rfl)⟩, zx_mem 1110 (by decide +kernel) rfl⟩
set_option maxRecDepth 100000 in
theorem cc_M_245 : zx_cv "StillPictureModel" 245 y_M_within M_M_within 1 := ⟨⟨zx_mem 1115 rfl rfl, zx_mem 79 (by decide +kernel) rfl, ⟨by decide, by decide, by decide +kernel⟩, Or.inl (zx_mem 1112 (by decide +kernel) rfl)⟩, zx_mem 1114 (by decide +kernel) rfl, zx_memS 61 (by decide +kernel) rfl⟩
set_option maxRecDepth 100000 in
theorem cc_M_105 : zx_cv "StillPictureModel" 105 y_M_filter M_M_filter 0 := ⟨⟨zx_mem 1119 rfl rfl, zx_mem 79 (by decide +kernel) rfl, ⟨by decide, by decide, by decide +kernel⟩, Or.inl (zx_mem 1116 (by decide +kernel) rfl)⟩, zx_mem 1118 (by decide +kernel) rfl, zx_memS 62 (by decide +kernel) rfl⟩
set_option maxRecDepth 100000 in
theorem cc_M_267 : zx_cv "StillPictureModel" 267 y_M_smooth M_M_smooth 4 := ⟨⟨zx_mem 1123 rfl rfl, zx_mem 79 (by decide +kernel) rfl, ⟨by decide, by decide, by decide +kernel⟩, Or.inl (zx_mem 1120 (by decide +kernel) rfl)⟩, zx_mem 1122 (by decide +kernel) rfl, zx_memS 63 (by decide +kernel) rfl⟩
set_option maxRecDepth 100000 in
theorem cc_M_271 : zx_cv "StillPictureModel" 271 y_M_soften M_M_soften 1 := ⟨⟨zx_mem 1127 rfl rfl, zx_mem 79 (by decide +kernel) rfl, ⟨by decide, by decide, by decide +kernel⟩, Or.inl (zx_mem 1124 (by decide +kernel) rfl)⟩, zx_mem 1126 (by decide +kernel) rfl, zx_memS 64 (by decide +kernel) rfl⟩
set_option maxRecDepth 100000 in
theorem cc_M_274 : zx_cv "StillPictureModel" 274 y_M_pull M_M_pull 1 := ⟨⟨zx_mem 1131 rfl rfl, zx_mem 79 (by decide +kernel) rfl, ⟨by decide, by decide, by decide +kernel⟩, Or.inl (zx_mem 1128 (by decide +kernel) rfl)⟩, zx_mem 1130 (by decide +kernel) rfl, zx_memS 65 (by decide +kernel) rfl⟩
set_option maxRecDepth 100000 in
theorem cc_M_277 : zx_cv "StillPictureModel" 277 y_M_there M_M_there 2 := ⟨⟨zx_mem 1155 rfl rfl, zx_mem 79 (by decide +kernel) rfl, ⟨by decide, by decide, by decide +kernel⟩, Or.inl (zx_mem 1152 (by decide +kernel) rfl)⟩, zx_mem 1154 (by decide +kernel) rfl, zx_memS 66 (by decide +kernel) rfl⟩
set_option maxRecDepth 100000 in
theorem cc_L_77 : zx_cv "StillPictureLaw" 77 y_S_table M_S_table 2 := ⟨⟨zx_mem 811 rfl rfl, zx_mem 68 (by decide +kernel) rfl, ⟨by decide, by decide, by decide +kernel⟩, Or.inl (zx_mem 808 (by decide +kernel) rfl)⟩, zx_mem 809 (by decide +kernel) rfl, zx_mem 810 (by decide +kernel) rfl⟩
set_option maxRecDepth 100000 in
theorem cc_L_80 : zx_cv "StillPictureLaw" 80 y_M_table M_M_table 2 := ⟨⟨zx_mem 1175 rfl rfl, zx_mem 79 (by decide +kernel) rfl, ⟨by decide, by decide, by decide +kernel⟩, Or.inl (zx_mem 1172 (by decide +kernel) rfl)⟩, zx_mem 1173 (by decide +kernel) rfl, zx_mem 1174 (by decide +kernel) rfl⟩
set_option maxRecDepth 100000 in
theorem cc_L_73 : zx_cv "StillPictureLaw" 73 y_S_taken M_S_taken 0 := ⟨⟨zx_mem 807 rfl rfl, zx_mem 68 (by decide +kernel) rfl, ⟨by decide, by decide, by decide +kernel⟩, Or.inl (zx_mem 804 (by decide +kernel) rfl)⟩, zx_mem 805 (by decide +kernel) rfl, zx_mem 806 (by decide +kernel) rfl⟩
set_option maxRecDepth 100000 in
theorem cc_L_76 : zx_cv "StillPictureLaw" 76 y_M_taken M_M_taken 0 := ⟨⟨zx_mem 1171 rfl rfl, zx_mem 79 (by decide +kernel) rfl, ⟨by decide, by decide, by decide +kernel⟩, Or.inl (zx_mem 1168 (by decide +kernel) rfl)⟩, zx_mem 1169 (by decide +kernel) rfl, zx_mem 1170 (by decide +kernel) rfl⟩
set_option maxRecDepth 100000 in
theorem cc_L_69 : zx_cv "StillPictureLaw" 69 y_S_symbols M_S_symbols 0 := ⟨⟨zx_mem 803 rfl rfl, zx_mem 68 (by decide +kernel) rfl, ⟨by decide, by decide, by decide +kernel⟩, Or.inl (zx_mem 800 (by decide +kernel) rfl)⟩, zx_mem 801 (by decide +kernel) rfl, zx_mem 802 (by decide +kernel) rfl⟩
set_option maxRecDepth 100000 in
theorem cc_L_72 : zx_cv "StillPictureLaw" 72 y_M_symbols M_M_symbols 0 := ⟨⟨zx_mem 1167 rfl rfl, zx_mem 79 (by decide +kernel) rfl, ⟨by decide, by decide, by decide +kernel⟩, Or.inl (zx_mem 1164 (by decide +kernel) rfl)⟩, zx_mem 1165 (by decide +kernel) rfl, zx_mem 1166 (by decide +kernel) rfl⟩
set_option maxRecDepth 100000 in
theorem cc_L_65 : zx_cv "StillPictureLaw" 65 y_S_blocks M_S_blocks 0 := ⟨⟨zx_mem 799 rfl rfl, zx_mem 68 (by decide +kernel) rfl, ⟨by decide, by decide, by decide +kernel⟩, Or.inl (zx_mem 796 (by decide +kernel) rfl)⟩, zx_mem 797 (by decide +kernel) rfl, zx_mem 798 (by decide +kernel) rfl⟩
set_option maxRecDepth 100000 in
theorem cc_L_68 : zx_cv "StillPictureLaw" 68 y_M_blocks M_M_blocks 0 := ⟨⟨zx_mem 1163 rfl rfl, zx_mem 79 (by decide +kernel) rfl, ⟨by decide, by decide, by decide +kernel⟩, Or.inl (zx_mem 1160 (by decide +kernel) rfl)⟩, zx_mem 1161 (by decide +kernel) rfl, zx_mem 1162 (by decide +kernel) rfl⟩
set_option maxRecDepth 100000 in
theorem cc_L_61 : zx_cv "StillPictureLaw" 61 y_S_block M_S_block 3 := ⟨⟨zx_mem 793 rfl rfl, zx_mem 68 (by decide +kernel) rfl, ⟨by decide, by decide, by decide +kernel⟩, Or.inl (zx_mem 790 (by decide +kernel) rfl)⟩, zx_mem 791 (by decide +kernel) rfl, zx_mem 792 (by decide +kernel) rfl⟩
set_option maxRecDepth 100000 in
theorem cc_L_64 : zx_cv "StillPictureLaw" 64 y_M_block M_M_block 3 := ⟨⟨zx_mem 1159 rfl rfl, zx_mem 79 (by decide +kernel) rfl, ⟨by decide, by decide, by decide +kernel⟩, Or.inl (zx_mem 1156 (by decide +kernel) rfl)⟩, zx_mem 1157 (by decide +kernel) rfl, zx_mem 1158 (by decide +kernel) rfl⟩
set_option maxRecDepth 100000 in
theorem cc_L_56 : zx_cv "StillPictureLaw" 56 y_S_sample M_S_sample 3 := ⟨⟨zx_mem 784 rfl rfl, zx_mem 68 (by decide +kernel) rfl, ⟨by decide, by decide, by decide +kernel⟩, Or.inl (zx_mem 781 (by decide +kernel) rfl)⟩, zx_mem 782 (by decide +kernel) rfl, zx_mem 783 (by decide +kernel) rfl⟩
set_option maxRecDepth 100000 in
theorem cc_L_60 : zx_cv "StillPictureLaw" 60 y_M_sample M_M_sample 3 := ⟨⟨zx_mem 1151 rfl rfl, zx_mem 79 (by decide +kernel) rfl, ⟨by decide, by decide, by decide +kernel⟩, Or.inl (zx_mem 1148 (by decide +kernel) rfl)⟩, zx_mem 1149 (by decide +kernel) rfl, zx_mem 1150 (by decide +kernel) rfl⟩
set_option maxRecDepth 100000 in
theorem cc_L_52 : zx_cv "StillPictureLaw" 52 y_S_depth M_S_depth 0 := ⟨⟨zx_mem 780 rfl rfl, zx_mem 68 (by decide +kernel) rfl, ⟨by decide, by decide, by decide +kernel⟩, Or.inl (zx_mem 777 (by decide +kernel) rfl)⟩, zx_mem 778 (by decide +kernel) rfl, zx_mem 779 (by decide +kernel) rfl⟩
set_option maxRecDepth 100000 in
theorem cc_L_55 : zx_cv "StillPictureLaw" 55 y_M_depth M_M_depth 0 := ⟨⟨zx_mem 1147 rfl rfl, zx_mem 79 (by decide +kernel) rfl, ⟨by decide, by decide, by decide +kernel⟩, Or.inl (zx_mem 1144 (by decide +kernel) rfl)⟩, zx_mem 1145 (by decide +kernel) rfl, zx_mem 1146 (by decide +kernel) rfl⟩
set_option maxRecDepth 100000 in
theorem cc_L_48 : zx_cv "StillPictureLaw" 48 y_S_height M_S_height 0 := ⟨⟨zx_mem 776 rfl rfl, zx_mem 68 (by decide +kernel) rfl, ⟨by decide, by decide, by decide +kernel⟩, Or.inl (zx_mem 773 (by decide +kernel) rfl)⟩, zx_mem 774 (by decide +kernel) rfl, zx_mem 775 (by decide +kernel) rfl⟩
set_option maxRecDepth 100000 in
theorem cc_L_51 : zx_cv "StillPictureLaw" 51 y_M_height M_M_height 0 := ⟨⟨zx_mem 1143 rfl rfl, zx_mem 79 (by decide +kernel) rfl, ⟨by decide, by decide, by decide +kernel⟩, Or.inl (zx_mem 1140 (by decide +kernel) rfl)⟩, zx_mem 1141 (by decide +kernel) rfl, zx_mem 1142 (by decide +kernel) rfl⟩
set_option maxRecDepth 100000 in
theorem cc_L_44 : zx_cv "StillPictureLaw" 44 y_S_width M_S_width 0 := ⟨⟨zx_mem 772 rfl rfl, zx_mem 68 (by decide +kernel) rfl, ⟨by decide, by decide, by decide +kernel⟩, Or.inl (zx_mem 769 (by decide +kernel) rfl)⟩, zx_mem 770 (by decide +kernel) rfl, zx_mem 771 (by decide +kernel) rfl⟩
set_option maxRecDepth 100000 in
theorem cc_L_47 : zx_cv "StillPictureLaw" 47 y_M_width M_M_width 0 := ⟨⟨zx_mem 1139 rfl rfl, zx_mem 79 (by decide +kernel) rfl, ⟨by decide, by decide, by decide +kernel⟩, Or.inl (zx_mem 1136 (by decide +kernel) rfl)⟩, zx_mem 1137 (by decide +kernel) rfl, zx_mem 1138 (by decide +kernel) rfl⟩
set_option maxRecDepth 100000 in
theorem cc_L_40 : zx_cv "StillPictureLaw" 40 y_S_planes M_S_planes 0 := ⟨⟨zx_mem 768 rfl rfl, zx_mem 68 (by decide +kernel) rfl, ⟨by decide, by decide, by decide +kernel⟩, Or.inl (zx_mem 765 (by decide +kernel) rfl)⟩, zx_mem 766 (by decide +kernel) rfl, zx_mem 767 (by decide +kernel) rfl⟩
set_option maxRecDepth 100000 in
theorem cc_L_43 : zx_cv "StillPictureLaw" 43 y_M_planes M_M_planes 0 := ⟨⟨zx_mem 1135 rfl rfl, zx_mem 79 (by decide +kernel) rfl, ⟨by decide, by decide, by decide +kernel⟩, Or.inl (zx_mem 1132 (by decide +kernel) rfl)⟩, zx_mem 1133 (by decide +kernel) rfl, zx_mem 1134 (by decide +kernel) rfl⟩
set_option maxRecDepth 100000 in
theorem cc_L_36 : zx_cv "StillPictureLaw" 36 y_S_decode M_S_decode 0 := ⟨⟨zx_mem 469 rfl rfl, zx_mem 68 (by decide +kernel) rfl, ⟨by decide, by decide, by decide +kernel⟩, Or.inl (zx_mem 466 (by decide +kernel) rfl)⟩, zx_mem 467 (by decide +kernel) rfl, zx_mem 468 (by decide +kernel) rfl⟩
set_option maxRecDepth 100000 in
theorem cc_L_39 : zx_cv "StillPictureLaw" 39 y_M_decode M_M_decode 0 := ⟨⟨zx_mem 988 rfl rfl, zx_mem 79 (by decide +kernel) rfl, ⟨by decide, by decide, by decide +kernel⟩, Or.inl (zx_mem 985 (by decide +kernel) rfl)⟩, zx_mem 986 (by decide +kernel) rfl, zx_mem 987 (by decide +kernel) rfl⟩
set_option maxRecDepth 100000 in
theorem cc_L_31 : zx_cv "StillPictureLaw" 31 y_S_size M_S_size 0 := ⟨⟨zx_mem 465 rfl rfl, zx_mem 68 (by decide +kernel) rfl, ⟨by decide, by decide, by decide +kernel⟩, Or.inl (zx_mem 462 (by decide +kernel) rfl)⟩, zx_mem 463 (by decide +kernel) rfl, zx_mem 464 (by decide +kernel) rfl⟩
set_option maxRecDepth 100000 in
theorem cc_L_35 : zx_cv "StillPictureLaw" 35 y_M_size M_M_size 0 := ⟨⟨zx_mem 984 rfl rfl, zx_mem 79 (by decide +kernel) rfl, ⟨by decide, by decide, by decide +kernel⟩, Or.inl (zx_mem 981 (by decide +kernel) rfl)⟩, zx_mem 982 (by decide +kernel) rfl, zx_mem 983 (by decide +kernel) rfl⟩
set_option maxRecDepth 100000 in
theorem cc_L_27 : zx_cv "StillPictureLaw" 27 y_S_clear M_S_clear 0 := ⟨⟨zx_mem 461 rfl rfl, zx_mem 68 (by decide +kernel) rfl, ⟨by decide, by decide, by decide +kernel⟩, Or.inl (zx_mem 458 (by decide +kernel) rfl)⟩, zx_mem 459 (by decide +kernel) rfl, zx_mem 460 (by decide +kernel) rfl⟩
set_option maxRecDepth 100000 in
theorem cc_L_30 : zx_cv "StillPictureLaw" 30 y_M_clear M_M_clear 0 := ⟨⟨zx_mem 980 rfl rfl, zx_mem 79 (by decide +kernel) rfl, ⟨by decide, by decide, by decide +kernel⟩, Or.inl (zx_mem 977 (by decide +kernel) rfl)⟩, zx_mem 978 (by decide +kernel) rfl, zx_mem 979 (by decide +kernel) rfl⟩
set_option maxRecDepth 100000 in
theorem cc_L_22 : zx_cv "StillPictureLaw" 22 y_S_patch M_S_patch 2 := ⟨⟨zx_mem 457 rfl rfl, zx_mem 68 (by decide +kernel) rfl, ⟨by decide, by decide, by decide +kernel⟩, Or.inl (zx_mem 454 (by decide +kernel) rfl)⟩, zx_mem 455 (by decide +kernel) rfl, zx_mem 456 (by decide +kernel) rfl⟩
set_option maxRecDepth 100000 in
theorem cc_L_26 : zx_cv "StillPictureLaw" 26 y_M_patch M_M_patch 2 := ⟨⟨zx_mem 976 rfl rfl, zx_mem 79 (by decide +kernel) rfl, ⟨by decide, by decide, by decide +kernel⟩, Or.inl (zx_mem 973 (by decide +kernel) rfl)⟩, zx_mem 974 (by decide +kernel) rfl, zx_mem 975 (by decide +kernel) rfl⟩
set_option maxRecDepth 100000 in
theorem cc_L_18 : zx_cv "StillPictureLaw" 18 y_S_word M_S_word 1 := ⟨⟨zx_mem 453 rfl rfl, zx_mem 68 (by decide +kernel) rfl, ⟨by decide, by decide, by decide +kernel⟩, Or.inl (zx_mem 450 (by decide +kernel) rfl)⟩, zx_mem 451 (by decide +kernel) rfl, zx_mem 452 (by decide +kernel) rfl⟩
set_option maxRecDepth 100000 in
theorem cc_L_21 : zx_cv "StillPictureLaw" 21 y_M_word M_M_word 1 := ⟨⟨zx_mem 971 rfl rfl, zx_mem 79 (by decide +kernel) rfl, ⟨by decide, by decide, by decide +kernel⟩, Or.inl (zx_mem 968 (by decide +kernel) rfl)⟩, zx_mem 969 (by decide +kernel) rfl, zx_mem 970 (by decide +kernel) rfl⟩
set_option maxRecDepth 100000 in
theorem cc_L_13 : zx_cv "StillPictureLaw" 13 y_S_add M_S_add 1 := ⟨⟨zx_mem 446 rfl rfl, zx_mem 68 (by decide +kernel) rfl, ⟨by decide, by decide, by decide +kernel⟩, Or.inl (zx_mem 443 (by decide +kernel) rfl)⟩, zx_mem 444 (by decide +kernel) rfl, zx_mem 445 (by decide +kernel) rfl⟩
set_option maxRecDepth 100000 in
theorem cc_L_17 : zx_cv "StillPictureLaw" 17 y_M_add M_M_add 1 := ⟨⟨zx_mem 967 rfl rfl, zx_mem 79 (by decide +kernel) rfl, ⟨by decide, by decide, by decide +kernel⟩, Or.inl (zx_mem 964 (by decide +kernel) rfl)⟩, zx_mem 965 (by decide +kernel) rfl, zx_mem 966 (by decide +kernel) rfl⟩
set_option maxRecDepth 100000 in
theorem fl_S_75 : zx_fl "StillPicture" 75 0 8 := ⟨"StillPicture", zt_S, 10, rfl, by decide, uw_S, Or.inl ⟨_, rfl, zx_mem 420 (by decide +kernel) rfl⟩⟩
set_option maxRecDepth 100000 in
theorem fl_S_9 : zx_fl "StillPicture" 9 0 0 := ⟨"StillPicture", zt_S, 10, rfl, by decide, uw_S, Or.inl ⟨_, rfl, zx_mem 412 (by decide +kernel) rfl⟩⟩
set_option maxRecDepth 100000 in
theorem pl_S_8 : zx_pl 0 8 .int := ⟨"StillPicture", zt_S, 10, zy_S, rfl, zy_S_ok, zn_S, rfl, by decide +kernel⟩
set_option maxRecDepth 100000 in
theorem fl_S_71 : zx_fl "StillPicture" 71 0 7 := ⟨"StillPicture", zt_S, 10, rfl, by decide, uw_S, Or.inl ⟨_, rfl, zx_mem 419 (by decide +kernel) rfl⟩⟩
set_option maxRecDepth 100000 in
theorem fl_S_79 : zx_fl "StillPicture" 79 0 9 := ⟨"StillPicture", zt_S, 10, rfl, by decide, uw_S, Or.inl ⟨_, rfl, zx_mem 421 (by decide +kernel) rfl⟩⟩
set_option maxRecDepth 100000 in
theorem pl_S_9 : zx_pl 0 9 .boolean := ⟨"StillPicture", zt_S, 10, zy_S, rfl, zy_S_ok, zn_S, rfl, by decide +kernel⟩
set_option maxRecDepth 100000 in
theorem fl_S_62 : zx_fl "StillPicture" 62 0 6 := ⟨"StillPicture", zt_S, 10, rfl, by decide, uw_S, Or.inl ⟨_, rfl, zx_mem 418 (by decide +kernel) rfl⟩⟩
set_option maxRecDepth 100000 in
theorem fl_S_36 : zx_fl "StillPicture" 36 0 3 := ⟨"StillPicture", zt_S, 10, rfl, by decide, uw_S, Or.inl ⟨_, rfl, zx_mem 415 (by decide +kernel) rfl⟩⟩
set_option maxRecDepth 100000 in
theorem fl_S_18 : zx_fl "StillPicture" 18 0 1 := ⟨"StillPicture", zt_S, 10, rfl, by decide, uw_S, Or.inl ⟨_, rfl, zx_mem 413 (by decide +kernel) rfl⟩⟩
set_option maxRecDepth 100000 in
theorem fl_S_27 : zx_fl "StillPicture" 27 0 2 := ⟨"StillPicture", zt_S, 10, rfl, by decide, uw_S, Or.inl ⟨_, rfl, zx_mem 414 (by decide +kernel) rfl⟩⟩
set_option maxRecDepth 100000 in
theorem fl_F_15 : zx_fl "StillPicture$Filter" 15 10 0 := ⟨"StillPicture$Filter", zt_F, 3, rfl, by decide, uw_F, Or.inl ⟨_, rfl, zx_mem 402 (by decide +kernel) rfl⟩⟩
set_option maxRecDepth 100000 in
theorem fl_F_42 : zx_fl "StillPicture$Filter" 42 4 13 := ⟨"StillPicture$Header", zt_H, 16, rfl, by decide, uw_H, Or.inr ⟨_, "StillPicture", rfl, zx_memN 223 (by decide +kernel) rfl⟩⟩
set_option maxRecDepth 100000 in
theorem fl_F_29 : zx_fl "StillPicture$Filter" 29 4 6 := ⟨"StillPicture$Header", zt_H, 16, rfl, by decide, uw_H, Or.inr ⟨_, "StillPicture", rfl, zx_memN 201 (by decide +kernel) rfl⟩⟩
set_option maxRecDepth 100000 in
theorem fl_F_32 : zx_fl "StillPicture$Filter" 32 4 12 := ⟨"StillPicture$Header", zt_H, 16, rfl, by decide, uw_H, Or.inr ⟨_, "StillPicture", rfl, zx_memN 221 (by decide +kernel) rfl⟩⟩
set_option maxRecDepth 100000 in
theorem fl_F_23 : zx_fl "StillPicture$Filter" 23 4 9 := ⟨"StillPicture$Header", zt_H, 16, rfl, by decide, uw_H, Or.inr ⟨_, "StillPicture", rfl, zx_memN 213 (by decide +kernel) rfl⟩⟩
set_option maxRecDepth 100000 in
theorem fl_F_9 : zx_fl "StillPicture$Filter" 9 10 2 := ⟨"StillPicture$Filter", zt_F, 3, rfl, by decide, uw_F, Or.inl ⟨_, rfl, zx_mem 404 (by decide +kernel) rfl⟩⟩
set_option maxRecDepth 100000 in
theorem fl_F_51 : zx_fl "StillPicture$Filter" 51 4 8 := ⟨"StillPicture$Header", zt_H, 16, rfl, by decide, uw_H, Or.inr ⟨_, "StillPicture", rfl, zx_memN 210 (by decide +kernel) rfl⟩⟩
set_option maxRecDepth 100000 in
theorem fl_F_48 : zx_fl "StillPicture$Filter" 48 4 7 := ⟨"StillPicture$Header", zt_H, 16, rfl, by decide, uw_H, Or.inr ⟨_, "StillPicture", rfl, zx_memN 206 (by decide +kernel) rfl⟩⟩
set_option maxRecDepth 100000 in
theorem fl_F_19 : zx_fl "StillPicture$Filter" 19 10 1 := ⟨"StillPicture$Filter", zt_F, 3, rfl, by decide, uw_F, Or.inl ⟨_, rfl, zx_mem 403 (by decide +kernel) rfl⟩⟩
set_option maxRecDepth 100000 in
theorem fl_F_66 : zx_fl "StillPicture$Filter" 66 6 0 := ⟨"StillPicture$Picture", zt_P, 5, rfl, by decide, uw_P, Or.inr ⟨_, "StillPicture", rfl, zx_memN 309 (by decide +kernel) rfl⟩⟩
set_option maxRecDepth 100000 in
theorem fl_P_13 : zx_fl "StillPicture$Picture" 13 6 1 := ⟨"StillPicture$Picture", zt_P, 5, rfl, by decide, uw_P, Or.inl ⟨_, rfl, zx_mem 312 (by decide +kernel) rfl⟩⟩
set_option maxRecDepth 100000 in
theorem fl_P_23 : zx_fl "StillPicture$Picture" 23 6 4 := ⟨"StillPicture$Picture", zt_P, 5, rfl, by decide, uw_P, Or.inl ⟨_, rfl, zx_mem 316 (by decide +kernel) rfl⟩⟩
set_option maxRecDepth 100000 in
theorem fl_T_15 : zx_fl "StillPicture$Tile" 15 7 0 := ⟨"StillPicture$Tile", zt_T, 6, rfl, by decide, uw_T, Or.inl ⟨_, rfl, zx_mem 377 (by decide +kernel) rfl⟩⟩
set_option maxRecDepth 100000 in
theorem fl_T_86 : zx_fl "StillPicture$Tile" 86 4 6 := ⟨"StillPicture$Header", zt_H, 16, rfl, by decide, uw_H, Or.inr ⟨_, "StillPicture", rfl, zx_memN 202 (by decide +kernel) rfl⟩⟩
set_option maxRecDepth 100000 in
theorem fl_T_72 : zx_fl "StillPicture$Tile" 72 4 7 := ⟨"StillPicture$Header", zt_H, 16, rfl, by decide, uw_H, Or.inr ⟨_, "StillPicture", rfl, zx_memN 205 (by decide +kernel) rfl⟩⟩
set_option maxRecDepth 100000 in
theorem fl_T_75 : zx_fl "StillPicture$Tile" 75 4 8 := ⟨"StillPicture$Header", zt_H, 16, rfl, by decide, uw_H, Or.inr ⟨_, "StillPicture", rfl, zx_memN 209 (by decide +kernel) rfl⟩⟩
set_option maxRecDepth 100000 in
theorem fl_T_19 : zx_fl "StillPicture$Tile" 19 7 1 := ⟨"StillPicture$Tile", zt_T, 6, rfl, by decide, uw_T, Or.inl ⟨_, rfl, zx_mem 378 (by decide +kernel) rfl⟩⟩
set_option maxRecDepth 100000 in
theorem fl_T_45 : zx_fl "StillPicture$Tile" 45 4 14 := ⟨"StillPicture$Header", zt_H, 16, rfl, by decide, uw_H, Or.inr ⟨_, "StillPicture", rfl, zx_memN 225 (by decide +kernel) rfl⟩⟩
set_option maxRecDepth 100000 in
theorem fl_T_51 : zx_fl "StillPicture$Tile" 51 4 15 := ⟨"StillPicture$Header", zt_H, 16, rfl, by decide, uw_H, Or.inr ⟨_, "StillPicture", rfl, zx_memN 227 (by decide +kernel) rfl⟩⟩
set_option maxRecDepth 100000 in
theorem fl_T_54 : zx_fl "StillPicture$Tile" 54 4 11 := ⟨"StillPicture$Header", zt_H, 16, rfl, by decide, uw_H, Or.inr ⟨_, "StillPicture", rfl, zx_memN 219 (by decide +kernel) rfl⟩⟩
set_option maxRecDepth 100000 in
theorem fl_T_23 : zx_fl "StillPicture$Tile" 23 7 2 := ⟨"StillPicture$Tile", zt_T, 6, rfl, by decide, uw_T, Or.inl ⟨_, rfl, zx_mem 379 (by decide +kernel) rfl⟩⟩
set_option maxRecDepth 100000 in
theorem fl_T_64 : zx_fl "StillPicture$Tile" 64 4 9 := ⟨"StillPicture$Header", zt_H, 16, rfl, by decide, uw_H, Or.inr ⟨_, "StillPicture", rfl, zx_memN 214 (by decide +kernel) rfl⟩⟩
set_option maxRecDepth 100000 in
theorem fl_T_32 : zx_fl "StillPicture$Tile" 32 7 3 := ⟨"StillPicture$Tile", zt_T, 6, rfl, by decide, uw_T, Or.inl ⟨_, rfl, zx_mem 380 (by decide +kernel) rfl⟩⟩
set_option maxRecDepth 100000 in
theorem fl_T_110 : zx_fl "StillPicture$Tile" 110 4 10 := ⟨"StillPicture$Header", zt_H, 16, rfl, by decide, uw_H, Or.inr ⟨_, "StillPicture", rfl, zx_memN 217 (by decide +kernel) rfl⟩⟩
set_option maxRecDepth 100000 in
theorem fl_T_41 : zx_fl "StillPicture$Tile" 41 7 4 := ⟨"StillPicture$Tile", zt_T, 6, rfl, by decide, uw_T, Or.inl ⟨_, rfl, zx_mem 381 (by decide +kernel) rfl⟩⟩
set_option maxRecDepth 100000 in
theorem fl_T_9 : zx_fl "StillPicture$Tile" 9 7 5 := ⟨"StillPicture$Tile", zt_T, 6, rfl, by decide, uw_T, Or.inl ⟨_, rfl, zx_mem 382 (by decide +kernel) rfl⟩⟩
set_option maxRecDepth 100000 in
theorem fl_D_7 : zx_fl "StillPicture$Differences" 7 8 1 := ⟨"StillPicture$Differences", zt_D, 3, rfl, by decide, uw_D, Or.inl ⟨_, rfl, zx_mem 341 (by decide +kernel) rfl⟩⟩
set_option maxRecDepth 100000 in
theorem sl_D_39 : Cond.fieldLink "StillPicture$Differences" 39 "StillPicture$Differences" "PLACES" "[I" ∈ zx_ws := zx_mem 662 (by decide +kernel) rfl
set_option maxRecDepth 100000 in
theorem fl_D_16 : zx_fl "StillPicture$Differences" 16 8 0 := ⟨"StillPicture$Differences", zt_D, 3, rfl, by decide, uw_D, Or.inl ⟨_, rfl, zx_mem 340 (by decide +kernel) rfl⟩⟩
set_option maxRecDepth 100000 in
theorem fl_C_52 : zx_fl "StillPicture$Coder" 52 5 6 := ⟨"StillPicture$Coder", zt_C, 10, rfl, by decide, uw_C, Or.inl ⟨_, rfl, zx_mem 274 (by decide +kernel) rfl⟩⟩
set_option maxRecDepth 100000 in
theorem fl_C_55 : zx_fl "StillPicture$Coder" 55 5 7 := ⟨"StillPicture$Coder", zt_C, 10, rfl, by decide, uw_C, Or.inl ⟨_, rfl, zx_mem 275 (by decide +kernel) rfl⟩⟩
set_option maxRecDepth 100000 in
theorem pl_C_6 : zx_pl 5 6 .int := ⟨"StillPicture$Coder", zt_C, 10, zy_C, rfl, zy_C_ok, zn_C, rfl, by decide +kernel⟩
set_option maxRecDepth 100000 in
theorem fl_C_39 : zx_fl "StillPicture$Coder" 39 5 9 := ⟨"StillPicture$Coder", zt_C, 10, rfl, by decide, uw_C, Or.inl ⟨_, rfl, zx_mem 278 (by decide +kernel) rfl⟩⟩
set_option maxRecDepth 100000 in
theorem pl_C_9 : zx_pl 5 9 .int := ⟨"StillPicture$Coder", zt_C, 10, zy_C, rfl, zy_C_ok, zn_C, rfl, by decide +kernel⟩
set_option maxRecDepth 100000 in
theorem pl_C_7 : zx_pl 5 7 .int := ⟨"StillPicture$Coder", zt_C, 10, zy_C, rfl, zy_C_ok, zn_C, rfl, by decide +kernel⟩
set_option maxRecDepth 100000 in
theorem fl_C_58 : zx_fl "StillPicture$Coder" 58 5 8 := ⟨"StillPicture$Coder", zt_C, 10, rfl, by decide, uw_C, Or.inl ⟨_, rfl, zx_mem 276 (by decide +kernel) rfl⟩⟩
set_option maxRecDepth 100000 in
theorem pl_C_8 : zx_pl 5 8 .int := ⟨"StillPicture$Coder", zt_C, 10, zy_C, rfl, zy_C_ok, zn_C, rfl, by decide +kernel⟩
set_option maxRecDepth 100000 in
theorem fl_C_25 : zx_fl "StillPicture$Coder" 25 5 3 := ⟨"StillPicture$Coder", zt_C, 10, rfl, by decide, uw_C, Or.inl ⟨_, rfl, zx_mem 271 (by decide +kernel) rfl⟩⟩
set_option maxRecDepth 100000 in
theorem fl_C_32 : zx_fl "StillPicture$Coder" 32 5 4 := ⟨"StillPicture$Coder", zt_C, 10, rfl, by decide, uw_C, Or.inl ⟨_, rfl, zx_mem 272 (by decide +kernel) rfl⟩⟩
set_option maxRecDepth 100000 in
theorem fl_C_16 : zx_fl "StillPicture$Coder" 16 5 0 := ⟨"StillPicture$Coder", zt_C, 10, rfl, by decide, uw_C, Or.inl ⟨_, rfl, zx_mem 268 (by decide +kernel) rfl⟩⟩
set_option maxRecDepth 100000 in
theorem fl_C_35 : zx_fl "StillPicture$Coder" 35 5 5 := ⟨"StillPicture$Coder", zt_C, 10, rfl, by decide, uw_C, Or.inl ⟨_, rfl, zx_mem 273 (by decide +kernel) rfl⟩⟩
set_option maxRecDepth 100000 in
theorem fl_C_9 : zx_fl "StillPicture$Coder" 9 5 1 := ⟨"StillPicture$Coder", zt_C, 10, rfl, by decide, uw_C, Or.inl ⟨_, rfl, zx_mem 269 (by decide +kernel) rfl⟩⟩
set_option maxRecDepth 100000 in
theorem sl_C_48 : Cond.fieldLink "StillPicture$Coder" 48 "StillPicture$Coder" "COUNTS" "[I" ∈ zx_ws := zx_mem 596 (by decide +kernel) rfl
set_option maxRecDepth 100000 in
theorem fl_C_13 : zx_fl "StillPicture$Coder" 13 5 2 := ⟨"StillPicture$Coder", zt_C, 10, rfl, by decide, uw_C, Or.inl ⟨_, rfl, zx_mem 270 (by decide +kernel) rfl⟩⟩
set_option maxRecDepth 100000 in
theorem ct_C_51 : Cond.constant "StillPicture$Coder" 51 32768 ∈ zx_ws := zx_mem 598 (by decide +kernel) rfl
set_option maxRecDepth 100000 in
theorem sl_D_68 : Cond.fieldLink "StillPicture$Differences" 68 "StillPicture$Differences" "WAVES" "[I" ∈ zx_ws := zx_mem 686 (by decide +kernel) rfl
set_option maxRecDepth 100000 in
theorem fl_D_13 : zx_fl "StillPicture$Differences" 13 8 2 := ⟨"StillPicture$Differences", zt_D, 3, rfl, by decide, uw_D, Or.inl ⟨_, rfl, zx_mem 343 (by decide +kernel) rfl⟩⟩
set_option maxRecDepth 100000 in
theorem fl_E_7 : zx_fl "StillPicture$Prediction" 7 9 1 := ⟨"StillPicture$Prediction", zt_E, 6, rfl, by decide, uw_E, Or.inl ⟨_, rfl, zx_mem 358 (by decide +kernel) rfl⟩⟩
set_option maxRecDepth 100000 in
theorem fl_E_27 : zx_fl "StillPicture$Prediction" 27 9 5 := ⟨"StillPicture$Prediction", zt_E, 6, rfl, by decide, uw_E, Or.inl ⟨_, rfl, zx_mem 363 (by decide +kernel) rfl⟩⟩
set_option maxRecDepth 100000 in
theorem pl_E_5 : zx_pl 9 5 .int := ⟨"StillPicture$Prediction", zt_E, 6, zy_E, rfl, zy_E_ok, zn_E, rfl, by decide +kernel⟩
set_option maxRecDepth 100000 in
theorem fl_E_13 : zx_fl "StillPicture$Prediction" 13 9 2 := ⟨"StillPicture$Prediction", zt_E, 6, rfl, by decide, uw_E, Or.inl ⟨_, rfl, zx_mem 360 (by decide +kernel) rfl⟩⟩
set_option maxRecDepth 100000 in
theorem fl_E_16 : zx_fl "StillPicture$Prediction" 16 9 3 := ⟨"StillPicture$Prediction", zt_E, 6, rfl, by decide, uw_E, Or.inl ⟨_, rfl, zx_mem 361 (by decide +kernel) rfl⟩⟩
set_option maxRecDepth 100000 in
theorem fl_E_19 : zx_fl "StillPicture$Prediction" 19 9 0 := ⟨"StillPicture$Prediction", zt_E, 6, rfl, by decide, uw_E, Or.inl ⟨_, rfl, zx_mem 357 (by decide +kernel) rfl⟩⟩
set_option maxRecDepth 100000 in
theorem fl_E_44 : zx_fl "StillPicture$Prediction" 44 6 0 := ⟨"StillPicture$Picture", zt_P, 5, rfl, by decide, uw_P, Or.inr ⟨_, "StillPicture", rfl, zx_memN 308 (by decide +kernel) rfl⟩⟩
set_option maxRecDepth 100000 in
theorem fl_E_51 : zx_fl "StillPicture$Prediction" 51 9 4 := ⟨"StillPicture$Prediction", zt_E, 6, rfl, by decide, uw_E, Or.inl ⟨_, rfl, zx_mem 362 (by decide +kernel) rfl⟩⟩
set_option maxRecDepth 100000 in
theorem pl_E_4 : zx_pl 9 4 .int := ⟨"StillPicture$Prediction", zt_E, 6, zy_E, rfl, zy_E_ok, zn_E, rfl, by decide +kernel⟩
set_option maxRecDepth 100000 in
theorem fl_T_127 : zx_fl "StillPicture$Tile" 127 6 0 := ⟨"StillPicture$Picture", zt_P, 5, rfl, by decide, uw_P, Or.inr ⟨_, "StillPicture", rfl, zx_memN 310 (by decide +kernel) rfl⟩⟩
set_option maxRecDepth 100000 in
theorem fl_T_130 : zx_fl "StillPicture$Tile" 130 9 1 := ⟨"StillPicture$Prediction", zt_E, 6, rfl, by decide, uw_E, Or.inr ⟨_, "StillPicture", rfl, zx_memN 359 (by decide +kernel) rfl⟩⟩
set_option maxRecDepth 100000 in
theorem fl_T_133 : zx_fl "StillPicture$Tile" 133 8 1 := ⟨"StillPicture$Differences", zt_D, 3, rfl, by decide, uw_D, Or.inr ⟨_, "StillPicture", rfl, zx_memN 342 (by decide +kernel) rfl⟩⟩
set_option maxRecDepth 100000 in
theorem fl_P_16 : zx_fl "StillPicture$Picture" 16 6 2 := ⟨"StillPicture$Picture", zt_P, 5, rfl, by decide, uw_P, Or.inl ⟨_, rfl, zx_mem 313 (by decide +kernel) rfl⟩⟩
set_option maxRecDepth 100000 in
theorem fl_P_19 : zx_fl "StillPicture$Picture" 19 6 3 := ⟨"StillPicture$Picture", zt_P, 5, rfl, by decide, uw_P, Or.inl ⟨_, rfl, zx_mem 314 (by decide +kernel) rfl⟩⟩
set_option maxRecDepth 100000 in
theorem pl_P_3 : zx_pl 6 3 .int := ⟨"StillPicture$Picture", zt_P, 5, zy_P, rfl, zy_P_ok, zn_P, rfl, by decide +kernel⟩
set_option maxRecDepth 100000 in
theorem pl_C_3 : zx_pl 5 3 .int := ⟨"StillPicture$Coder", zt_C, 10, zy_C, rfl, zy_C_ok, zn_C, rfl, by decide +kernel⟩
set_option maxRecDepth 100000 in
theorem pl_C_4 : zx_pl 5 4 .int := ⟨"StillPicture$Coder", zt_C, 10, zy_C, rfl, zy_C_ok, zn_C, rfl, by decide +kernel⟩
set_option maxRecDepth 100000 in
theorem pl_C_5 : zx_pl 5 5 .boolean := ⟨"StillPicture$Coder", zt_C, 10, zy_C, rfl, zy_C_ok, zn_C, rfl, by decide +kernel⟩
set_option maxRecDepth 100000 in
theorem pl_P_4 : zx_pl 6 4 .int := ⟨"StillPicture$Picture", zt_P, 5, zy_P, rfl, zy_P_ok, zn_P, rfl, by decide +kernel⟩
set_option maxRecDepth 100000 in
theorem fl_H_37 : zx_fl "StillPicture$Header" 37 4 4 := ⟨"StillPicture$Header", zt_H, 16, rfl, by decide, uw_H, Or.inl ⟨_, rfl, zx_mem 199 (by decide +kernel) rfl⟩⟩
set_option maxRecDepth 100000 in
theorem fl_H_33 : zx_fl "StillPicture$Header" 33 4 3 := ⟨"StillPicture$Header", zt_H, 16, rfl, by decide, uw_H, Or.inl ⟨_, rfl, zx_mem 198 (by decide +kernel) rfl⟩⟩
set_option maxRecDepth 100000 in
theorem pl_H_3 : zx_pl 4 3 .boolean := ⟨"StillPicture$Header", zt_H, 16, zy_H, rfl, zy_H_ok, zn_H, rfl, by decide +kernel⟩
set_option maxRecDepth 100000 in
theorem pl_H_4 : zx_pl 4 4 .boolean := ⟨"StillPicture$Header", zt_H, 16, zy_H, rfl, zy_H_ok, zn_H, rfl, by decide +kernel⟩
set_option maxRecDepth 100000 in
theorem fl_H_26 : zx_fl "StillPicture$Header" 26 4 1 := ⟨"StillPicture$Header", zt_H, 16, rfl, by decide, uw_H, Or.inl ⟨_, rfl, zx_mem 196 (by decide +kernel) rfl⟩⟩
set_option maxRecDepth 100000 in
theorem fl_H_9 : zx_fl "StillPicture$Header" 9 4 0 := ⟨"StillPicture$Header", zt_H, 16, rfl, by decide, uw_H, Or.inl ⟨_, rfl, zx_mem 195 (by decide +kernel) rfl⟩⟩
set_option maxRecDepth 100000 in
theorem fl_H_40 : zx_fl "StillPicture$Header" 40 2 4 := ⟨"StillPicture$Item", zt_I, 11, rfl, by decide, uw_I, Or.inr ⟨_, "StillPicture", rfl, zx_memN 156 (by decide +kernel) rfl⟩⟩
set_option maxRecDepth 100000 in
theorem fl_H_61 : zx_fl "StillPicture$Header" 61 3 1 := ⟨"StillPicture$Cursor", zt_U, 4, rfl, by decide, uw_U, Or.inr ⟨_, "StillPicture", rfl, zx_memN 137 (by decide +kernel) rfl⟩⟩
set_option maxRecDepth 100000 in
theorem fl_H_30 : zx_fl "StillPicture$Header" 30 4 2 := ⟨"StillPicture$Header", zt_H, 16, rfl, by decide, uw_H, Or.inl ⟨_, rfl, zx_mem 197 (by decide +kernel) rfl⟩⟩
set_option maxRecDepth 100000 in
theorem fl_U_26 : zx_fl "StillPicture$Cursor" 26 3 2 := ⟨"StillPicture$Cursor", zt_U, 4, rfl, by decide, uw_U, Or.inl ⟨_, rfl, zx_mem 138 (by decide +kernel) rfl⟩⟩
set_option maxRecDepth 100000 in
theorem fl_U_19 : zx_fl "StillPicture$Cursor" 19 3 1 := ⟨"StillPicture$Cursor", zt_U, 4, rfl, by decide, uw_U, Or.inl ⟨_, rfl, zx_mem 136 (by decide +kernel) rfl⟩⟩
set_option maxRecDepth 100000 in
theorem pl_U_1 : zx_pl 3 1 .int := ⟨"StillPicture$Cursor", zt_U, 4, zy_U, rfl, zy_U_ok, zn_U, rfl, by decide +kernel⟩
set_option maxRecDepth 100000 in
theorem fl_U_7 : zx_fl "StillPicture$Cursor" 7 3 0 := ⟨"StillPicture$Cursor", zt_U, 4, rfl, by decide, uw_U, Or.inl ⟨_, rfl, zx_mem 135 (by decide +kernel) rfl⟩⟩
set_option maxRecDepth 100000 in
theorem pl_U_2 : zx_pl 3 2 .int := ⟨"StillPicture$Cursor", zt_U, 4, zy_U, rfl, zy_U_ok, zn_U, rfl, by decide +kernel⟩
set_option maxRecDepth 100000 in
theorem fl_U_29 : zx_fl "StillPicture$Cursor" 29 3 3 := ⟨"StillPicture$Cursor", zt_U, 4, rfl, by decide, uw_U, Or.inl ⟨_, rfl, zx_mem 140 (by decide +kernel) rfl⟩⟩
set_option maxRecDepth 100000 in
theorem pl_U_3 : zx_pl 3 3 .int := ⟨"StillPicture$Cursor", zt_U, 4, zy_U, rfl, zy_U_ok, zn_U, rfl, by decide +kernel⟩
set_option maxRecDepth 100000 in
theorem fl_H_106 : zx_fl "StillPicture$Header" 106 4 13 := ⟨"StillPicture$Header", zt_H, 16, rfl, by decide, uw_H, Or.inl ⟨_, rfl, zx_mem 224 (by decide +kernel) rfl⟩⟩
set_option maxRecDepth 100000 in
theorem pl_H_13 : zx_pl 4 13 .int := ⟨"StillPicture$Header", zt_H, 16, zy_H, rfl, zy_H_ok, zn_H, rfl, by decide +kernel⟩
set_option maxRecDepth 100000 in
theorem fl_H_97 : zx_fl "StillPicture$Header" 97 4 10 := ⟨"StillPicture$Header", zt_H, 16, rfl, by decide, uw_H, Or.inl ⟨_, rfl, zx_mem 218 (by decide +kernel) rfl⟩⟩
set_option maxRecDepth 100000 in
theorem fl_H_103 : zx_fl "StillPicture$Header" 103 4 12 := ⟨"StillPicture$Header", zt_H, 16, rfl, by decide, uw_H, Or.inl ⟨_, rfl, zx_mem 222 (by decide +kernel) rfl⟩⟩
set_option maxRecDepth 100000 in
theorem fl_H_112 : zx_fl "StillPicture$Header" 112 4 14 := ⟨"StillPicture$Header", zt_H, 16, rfl, by decide, uw_H, Or.inl ⟨_, rfl, zx_mem 226 (by decide +kernel) rfl⟩⟩
set_option maxRecDepth 100000 in
theorem pl_H_14 : zx_pl 4 14 .int := ⟨"StillPicture$Header", zt_H, 16, zy_H, rfl, zy_H_ok, zn_H, rfl, by decide +kernel⟩
set_option maxRecDepth 100000 in
theorem fl_H_115 : zx_fl "StillPicture$Header" 115 3 2 := ⟨"StillPicture$Cursor", zt_U, 4, rfl, by decide, uw_U, Or.inr ⟨_, "StillPicture", rfl, zx_memN 139 (by decide +kernel) rfl⟩⟩
set_option maxRecDepth 100000 in
theorem fl_H_118 : zx_fl "StillPicture$Header" 118 4 15 := ⟨"StillPicture$Header", zt_H, 16, rfl, by decide, uw_H, Or.inl ⟨_, rfl, zx_mem 228 (by decide +kernel) rfl⟩⟩
set_option maxRecDepth 100000 in
theorem pl_H_15 : zx_pl 4 15 .int := ⟨"StillPicture$Header", zt_H, 16, zy_H, rfl, zy_H_ok, zn_H, rfl, by decide +kernel⟩
set_option maxRecDepth 100000 in
theorem fl_H_100 : zx_fl "StillPicture$Header" 100 4 11 := ⟨"StillPicture$Header", zt_H, 16, rfl, by decide, uw_H, Or.inl ⟨_, rfl, zx_mem 220 (by decide +kernel) rfl⟩⟩
set_option maxRecDepth 100000 in
theorem pl_H_11 : zx_pl 4 11 .boolean := ⟨"StillPicture$Header", zt_H, 16, zy_H, rfl, zy_H_ok, zn_H, rfl, by decide +kernel⟩
set_option maxRecDepth 100000 in
theorem pl_H_12 : zx_pl 4 12 .int := ⟨"StillPicture$Header", zt_H, 16, zy_H, rfl, zy_H_ok, zn_H, rfl, by decide +kernel⟩
set_option maxRecDepth 100000 in
theorem fl_H_84 : zx_fl "StillPicture$Header" 84 4 5 := ⟨"StillPicture$Header", zt_H, 16, rfl, by decide, uw_H, Or.inl ⟨_, rfl, zx_mem 200 (by decide +kernel) rfl⟩⟩
set_option maxRecDepth 100000 in
theorem pl_H_10 : zx_pl 4 10 .int := ⟨"StillPicture$Header", zt_H, 16, zy_H, rfl, zy_H_ok, zn_H, rfl, by decide +kernel⟩
set_option maxRecDepth 100000 in
theorem fl_H_90 : zx_fl "StillPicture$Header" 90 4 9 := ⟨"StillPicture$Header", zt_H, 16, rfl, by decide, uw_H, Or.inl ⟨_, rfl, zx_mem 215 (by decide +kernel) rfl⟩⟩
set_option maxRecDepth 100000 in
theorem pl_H_9 : zx_pl 4 9 .int := ⟨"StillPicture$Header", zt_H, 16, zy_H, rfl, zy_H_ok, zn_H, rfl, by decide +kernel⟩
set_option maxRecDepth 100000 in
theorem fl_H_78 : zx_fl "StillPicture$Header" 78 4 7 := ⟨"StillPicture$Header", zt_H, 16, rfl, by decide, uw_H, Or.inl ⟨_, rfl, zx_mem 207 (by decide +kernel) rfl⟩⟩
set_option maxRecDepth 100000 in
theorem fl_H_81 : zx_fl "StillPicture$Header" 81 4 8 := ⟨"StillPicture$Header", zt_H, 16, rfl, by decide, uw_H, Or.inl ⟨_, rfl, zx_mem 211 (by decide +kernel) rfl⟩⟩
set_option maxRecDepth 100000 in
theorem fl_H_87 : zx_fl "StillPicture$Header" 87 4 6 := ⟨"StillPicture$Header", zt_H, 16, rfl, by decide, uw_H, Or.inl ⟨_, rfl, zx_mem 203 (by decide +kernel) rfl⟩⟩
set_option maxRecDepth 100000 in
theorem pl_H_6 : zx_pl 4 6 .int := ⟨"StillPicture$Header", zt_H, 16, zy_H, rfl, zy_H_ok, zn_H, rfl, by decide +kernel⟩
set_option maxRecDepth 100000 in
theorem pl_H_5 : zx_pl 4 5 .boolean := ⟨"StillPicture$Header", zt_H, 16, zy_H, rfl, zy_H_ok, zn_H, rfl, by decide +kernel⟩
set_option maxRecDepth 100000 in
theorem pl_H_7 : zx_pl 4 7 .int := ⟨"StillPicture$Header", zt_H, 16, zy_H, rfl, zy_H_ok, zn_H, rfl, by decide +kernel⟩
set_option maxRecDepth 100000 in
theorem pl_H_8 : zx_pl 4 8 .int := ⟨"StillPicture$Header", zt_H, 16, zy_H, rfl, zy_H_ok, zn_H, rfl, by decide +kernel⟩
set_option maxRecDepth 100000 in
theorem fl_I_15 : zx_fl "StillPicture$Item" 15 2 0 := ⟨"StillPicture$Item", zt_I, 11, rfl, by decide, uw_I, Or.inl ⟨_, rfl, zx_mem 150 (by decide +kernel) rfl⟩⟩
set_option maxRecDepth 100000 in
theorem fl_I_18 : zx_fl "StillPicture$Item" 18 2 1 := ⟨"StillPicture$Item", zt_I, 11, rfl, by decide, uw_I, Or.inl ⟨_, rfl, zx_mem 151 (by decide +kernel) rfl⟩⟩
set_option maxRecDepth 100000 in
theorem fl_I_52 : zx_fl "StillPicture$Item" 52 1 2 := ⟨"StillPicture$Boxes", zt_B, 7, rfl, by decide, uw_B, Or.inr ⟨_, "StillPicture", rfl, zx_memN 101 (by decide +kernel) rfl⟩⟩
set_option maxRecDepth 100000 in
theorem fl_I_91 : zx_fl "StillPicture$Item" 91 2 8 := ⟨"StillPicture$Item", zt_I, 11, rfl, by decide, uw_I, Or.inl ⟨_, rfl, zx_mem 161 (by decide +kernel) rfl⟩⟩
set_option maxRecDepth 100000 in
theorem fl_I_94 : zx_fl "StillPicture$Item" 94 2 9 := ⟨"StillPicture$Item", zt_I, 11, rfl, by decide, uw_I, Or.inl ⟨_, rfl, zx_mem 162 (by decide +kernel) rfl⟩⟩
set_option maxRecDepth 100000 in
theorem fl_I_97 : zx_fl "StillPicture$Item" 97 2 10 := ⟨"StillPicture$Item", zt_I, 11, rfl, by decide, uw_I, Or.inl ⟨_, rfl, zx_mem 163 (by decide +kernel) rfl⟩⟩
set_option maxRecDepth 100000 in
theorem fl_B_15 : zx_fl "StillPicture$Boxes" 15 1 2 := ⟨"StillPicture$Boxes", zt_B, 7, rfl, by decide, uw_B, Or.inl ⟨_, rfl, zx_mem 100 (by decide +kernel) rfl⟩⟩
set_option maxRecDepth 100000 in
theorem fl_B_18 : zx_fl "StillPicture$Boxes" 18 1 3 := ⟨"StillPicture$Boxes", zt_B, 7, rfl, by decide, uw_B, Or.inl ⟨_, rfl, zx_mem 102 (by decide +kernel) rfl⟩⟩
set_option maxRecDepth 100000 in
theorem fl_B_30 : zx_fl "StillPicture$Boxes" 30 1 6 := ⟨"StillPicture$Boxes", zt_B, 7, rfl, by decide, uw_B, Or.inl ⟨_, rfl, zx_mem 106 (by decide +kernel) rfl⟩⟩
set_option maxRecDepth 100000 in
theorem fl_B_11 : zx_fl "StillPicture$Boxes" 11 1 1 := ⟨"StillPicture$Boxes", zt_B, 7, rfl, by decide, uw_B, Or.inl ⟨_, rfl, zx_mem 98 (by decide +kernel) rfl⟩⟩
set_option maxRecDepth 100000 in
theorem pl_B_6 : zx_pl 1 6 .int := ⟨"StillPicture$Boxes", zt_B, 7, zy_B, rfl, zy_B_ok, zn_B, rfl, by decide +kernel⟩
set_option maxRecDepth 100000 in
theorem fl_B_27 : zx_fl "StillPicture$Boxes" 27 1 0 := ⟨"StillPicture$Boxes", zt_B, 7, rfl, by decide, uw_B, Or.inl ⟨_, rfl, zx_mem 97 (by decide +kernel) rfl⟩⟩
set_option maxRecDepth 100000 in
theorem fl_B_21 : zx_fl "StillPicture$Boxes" 21 1 4 := ⟨"StillPicture$Boxes", zt_B, 7, rfl, by decide, uw_B, Or.inl ⟨_, rfl, zx_mem 104 (by decide +kernel) rfl⟩⟩
set_option maxRecDepth 100000 in
theorem fl_B_24 : zx_fl "StillPicture$Boxes" 24 1 5 := ⟨"StillPicture$Boxes", zt_B, 7, rfl, by decide, uw_B, Or.inl ⟨_, rfl, zx_mem 105 (by decide +kernel) rfl⟩⟩
set_option maxRecDepth 100000 in
theorem fl_I_31 : zx_fl "StillPicture$Item" 31 2 5 := ⟨"StillPicture$Item", zt_I, 11, rfl, by decide, uw_I, Or.inl ⟨_, rfl, zx_mem 158 (by decide +kernel) rfl⟩⟩
set_option maxRecDepth 100000 in
theorem pl_I_5 : zx_pl 2 5 .int := ⟨"StillPicture$Item", zt_I, 11, zy_I, rfl, zy_I_ok, zn_I, rfl, by decide +kernel⟩
set_option maxRecDepth 100000 in
theorem fl_I_45 : zx_fl "StillPicture$Item" 45 2 7 := ⟨"StillPicture$Item", zt_I, 11, rfl, by decide, uw_I, Or.inl ⟨_, rfl, zx_mem 160 (by decide +kernel) rfl⟩⟩
set_option maxRecDepth 100000 in
theorem pl_I_7 : zx_pl 2 7 .int := ⟨"StillPicture$Item", zt_I, 11, zy_I, rfl, zy_I_ok, zn_I, rfl, by decide +kernel⟩
set_option maxRecDepth 100000 in
theorem fl_I_55 : zx_fl "StillPicture$Item" 55 2 6 := ⟨"StillPicture$Item", zt_I, 11, rfl, by decide, uw_I, Or.inl ⟨_, rfl, zx_mem 159 (by decide +kernel) rfl⟩⟩
set_option maxRecDepth 100000 in
theorem pl_I_6 : zx_pl 2 6 .int := ⟨"StillPicture$Item", zt_I, 11, zy_I, rfl, zy_I_ok, zn_I, rfl, by decide +kernel⟩
set_option maxRecDepth 100000 in
theorem fl_I_27 : zx_fl "StillPicture$Item" 27 2 2 := ⟨"StillPicture$Item", zt_I, 11, rfl, by decide, uw_I, Or.inl ⟨_, rfl, zx_mem 152 (by decide +kernel) rfl⟩⟩
set_option maxRecDepth 100000 in
theorem fl_I_64 : zx_fl "StillPicture$Item" 64 1 3 := ⟨"StillPicture$Boxes", zt_B, 7, rfl, by decide, uw_B, Or.inr ⟨_, "StillPicture", rfl, zx_memN 103 (by decide +kernel) rfl⟩⟩
set_option maxRecDepth 100000 in
theorem fl_I_82 : zx_fl "StillPicture$Item" 82 2 4 := ⟨"StillPicture$Item", zt_I, 11, rfl, by decide, uw_I, Or.inl ⟨_, rfl, zx_mem 157 (by decide +kernel) rfl⟩⟩
set_option maxRecDepth 100000 in
theorem fl_I_11 : zx_fl "StillPicture$Item" 11 2 3 := ⟨"StillPicture$Item", zt_I, 11, rfl, by decide, uw_I, Or.inl ⟨_, rfl, zx_mem 153 (by decide +kernel) rfl⟩⟩
set_option maxRecDepth 100000 in
theorem pl_I_4 : zx_pl 2 4 .int := ⟨"StillPicture$Item", zt_I, 11, zy_I, rfl, zy_I_ok, zn_I, rfl, by decide +kernel⟩
set_option maxRecDepth 100000 in
theorem pl_I_8 : zx_pl 2 8 .int := ⟨"StillPicture$Item", zt_I, 11, zy_I, rfl, zy_I_ok, zn_I, rfl, by decide +kernel⟩
set_option maxRecDepth 100000 in
theorem pl_I_9 : zx_pl 2 9 .int := ⟨"StillPicture$Item", zt_I, 11, zy_I, rfl, zy_I_ok, zn_I, rfl, by decide +kernel⟩
set_option maxRecDepth 100000 in
theorem pl_I_10 : zx_pl 2 10 .int := ⟨"StillPicture$Item", zt_I, 11, zy_I, rfl, zy_I_ok, zn_I, rfl, by decide +kernel⟩
set_option maxRecDepth 100000 in
theorem fl_I_115 : zx_fl "StillPicture$Item" 115 1 1 := ⟨"StillPicture$Boxes", zt_B, 7, rfl, by decide, uw_B, Or.inr ⟨_, "StillPicture", rfl, zx_memN 99 (by decide +kernel) rfl⟩⟩
set_option maxRecDepth 100000 in
theorem fl_S_101 : zx_fl "StillPicture" 101 4 6 := ⟨"StillPicture$Header", zt_H, 16, rfl, by decide, uw_H, Or.inr ⟨_, "StillPicture", rfl, zx_memN 204 (by decide +kernel) rfl⟩⟩
set_option maxRecDepth 100000 in
theorem fl_S_104 : zx_fl "StillPicture" 104 4 7 := ⟨"StillPicture$Header", zt_H, 16, rfl, by decide, uw_H, Or.inr ⟨_, "StillPicture", rfl, zx_memN 208 (by decide +kernel) rfl⟩⟩
set_option maxRecDepth 100000 in
theorem fl_S_107 : zx_fl "StillPicture" 107 4 8 := ⟨"StillPicture$Header", zt_H, 16, rfl, by decide, uw_H, Or.inr ⟨_, "StillPicture", rfl, zx_memN 212 (by decide +kernel) rfl⟩⟩
set_option maxRecDepth 100000 in
theorem fl_S_110 : zx_fl "StillPicture" 110 4 9 := ⟨"StillPicture$Header", zt_H, 16, rfl, by decide, uw_H, Or.inr ⟨_, "StillPicture", rfl, zx_memN 216 (by decide +kernel) rfl⟩⟩
set_option maxRecDepth 100000 in
theorem fl_S_53 : zx_fl "StillPicture" 53 0 5 := ⟨"StillPicture", zt_S, 10, rfl, by decide, uw_S, Or.inl ⟨_, rfl, zx_mem 417 (by decide +kernel) rfl⟩⟩
set_option maxRecDepth 100000 in
theorem fl_S_117 : zx_fl "StillPicture" 117 6 0 := ⟨"StillPicture$Picture", zt_P, 5, rfl, by decide, uw_P, Or.inr ⟨_, "StillPicture", rfl, zx_memN 311 (by decide +kernel) rfl⟩⟩
set_option maxRecDepth 100000 in
theorem fl_S_131 : zx_fl "StillPicture" 131 6 3 := ⟨"StillPicture$Picture", zt_P, 5, rfl, by decide, uw_P, Or.inr ⟨_, "StillPicture", rfl, zx_memN 315 (by decide +kernel) rfl⟩⟩
set_option maxRecDepth 100000 in
theorem fl_S_46 : zx_fl "StillPicture" 46 0 4 := ⟨"StillPicture", zt_S, 10, rfl, by decide, uw_S, Or.inl ⟨_, rfl, zx_mem 416 (by decide +kernel) rfl⟩⟩
set_option maxRecDepth 100000 in
theorem fl_S_134 : zx_fl "StillPicture" 134 5 9 := ⟨"StillPicture$Coder", zt_C, 10, rfl, by decide, uw_C, Or.inr ⟨_, "StillPicture", rfl, zx_memN 279 (by decide +kernel) rfl⟩⟩
set_option maxRecDepth 100000 in
theorem fl_S_137 : zx_fl "StillPicture" 137 5 8 := ⟨"StillPicture$Coder", zt_C, 10, rfl, by decide, uw_C, Or.inr ⟨_, "StillPicture", rfl, zx_memN 277 (by decide +kernel) rfl⟩⟩
set_option maxRecDepth 100000 in
theorem fl_M_70 : zx_fl "StillPictureModel" 70 11 0 := ⟨"StillPictureModel", zt_M, 47, rfl, by decide, uw_M, Or.inl ⟨_, rfl, zx_mem 822 (by decide +kernel) rfl⟩⟩
set_option maxRecDepth 100000 in
theorem fl_M_7 : zx_fl "StillPictureModel" 7 11 1 := ⟨"StillPictureModel", zt_M, 47, rfl, by decide, uw_M, Or.inl ⟨_, rfl, zx_mem 823 (by decide +kernel) rfl⟩⟩
set_option maxRecDepth 100000 in
theorem pl_M_0 : zx_pl 11 0 .int := ⟨"StillPictureModel", zt_M, 47, zy_M, rfl, zy_M_ok, zn_M, rfl, by decide +kernel⟩
set_option maxRecDepth 100000 in
theorem fl_M_108 : zx_fl "StillPictureModel" 108 11 33 := ⟨"StillPictureModel", zt_M, 47, rfl, by decide, uw_M, Or.inl ⟨_, rfl, zx_mem 855 (by decide +kernel) rfl⟩⟩
set_option maxRecDepth 100000 in
theorem pl_M_33 : zx_pl 11 33 .boolean := ⟨"StillPictureModel", zt_M, 47, zy_M, rfl, zy_M_ok, zn_M, rfl, by decide +kernel⟩
set_option maxRecDepth 100000 in
theorem fl_M_78 : zx_fl "StillPictureModel" 78 11 10 := ⟨"StillPictureModel", zt_M, 47, rfl, by decide, uw_M, Or.inl ⟨_, rfl, zx_mem 832 (by decide +kernel) rfl⟩⟩
set_option maxRecDepth 100000 in
theorem fl_M_13 : zx_fl "StillPictureModel" 13 11 3 := ⟨"StillPictureModel", zt_M, 47, rfl, by decide, uw_M, Or.inl ⟨_, rfl, zx_mem 825 (by decide +kernel) rfl⟩⟩
set_option maxRecDepth 100000 in
theorem pl_M_10 : zx_pl 11 10 .int := ⟨"StillPictureModel", zt_M, 47, zy_M, rfl, zy_M_ok, zn_M, rfl, by decide +kernel⟩
set_option maxRecDepth 100000 in
theorem fl_M_192 : zx_fl "StillPictureModel" 192 11 24 := ⟨"StillPictureModel", zt_M, 47, rfl, by decide, uw_M, Or.inl ⟨_, rfl, zx_mem 846 (by decide +kernel) rfl⟩⟩
set_option maxRecDepth 100000 in
theorem fl_M_165 : zx_fl "StillPictureModel" 165 11 16 := ⟨"StillPictureModel", zt_M, 47, rfl, by decide, uw_M, Or.inl ⟨_, rfl, zx_mem 838 (by decide +kernel) rfl⟩⟩
set_option maxRecDepth 100000 in
theorem fl_M_189 : zx_fl "StillPictureModel" 189 11 23 := ⟨"StillPictureModel", zt_M, 47, rfl, by decide, uw_M, Or.inl ⟨_, rfl, zx_mem 845 (by decide +kernel) rfl⟩⟩
set_option maxRecDepth 100000 in
theorem fl_M_37 : zx_fl "StillPictureModel" 37 11 34 := ⟨"StillPictureModel", zt_M, 47, rfl, by decide, uw_M, Or.inl ⟨_, rfl, zx_mem 856 (by decide +kernel) rfl⟩⟩
set_option maxRecDepth 100000 in
theorem fl_M_174 : zx_fl "StillPictureModel" 174 11 19 := ⟨"StillPictureModel", zt_M, 47, rfl, by decide, uw_M, Or.inl ⟨_, rfl, zx_mem 841 (by decide +kernel) rfl⟩⟩
set_option maxRecDepth 100000 in
theorem fl_M_40 : zx_fl "StillPictureModel" 40 11 35 := ⟨"StillPictureModel", zt_M, 47, rfl, by decide, uw_M, Or.inl ⟨_, rfl, zx_mem 857 (by decide +kernel) rfl⟩⟩
set_option maxRecDepth 100000 in
theorem fl_M_171 : zx_fl "StillPictureModel" 171 11 18 := ⟨"StillPictureModel", zt_M, 47, rfl, by decide, uw_M, Or.inl ⟨_, rfl, zx_mem 840 (by decide +kernel) rfl⟩⟩
set_option maxRecDepth 100000 in
theorem fl_M_168 : zx_fl "StillPictureModel" 168 11 17 := ⟨"StillPictureModel", zt_M, 47, rfl, by decide, uw_M, Or.inl ⟨_, rfl, zx_mem 839 (by decide +kernel) rfl⟩⟩
set_option maxRecDepth 100000 in
theorem fl_M_43 : zx_fl "StillPictureModel" 43 11 36 := ⟨"StillPictureModel", zt_M, 47, rfl, by decide, uw_M, Or.inl ⟨_, rfl, zx_mem 858 (by decide +kernel) rfl⟩⟩
set_option maxRecDepth 100000 in
theorem fl_M_31 : zx_fl "StillPictureModel" 31 11 31 := ⟨"StillPictureModel", zt_M, 47, rfl, by decide, uw_M, Or.inl ⟨_, rfl, zx_mem 853 (by decide +kernel) rfl⟩⟩
set_option maxRecDepth 100000 in
theorem ct_M_222 : Cond.constant "StillPictureModel" 222 32768 ∈ zx_ws := zx_mem 1061 (by decide +kernel) rfl
set_option maxRecDepth 100000 in
theorem fl_M_34 : zx_fl "StillPictureModel" 34 11 32 := ⟨"StillPictureModel", zt_M, 47, rfl, by decide, uw_M, Or.inl ⟨_, rfl, zx_mem 854 (by decide +kernel) rfl⟩⟩
set_option maxRecDepth 100000 in
theorem fl_M_207 : zx_fl "StillPictureModel" 207 11 27 := ⟨"StillPictureModel", zt_M, 47, rfl, by decide, uw_M, Or.inl ⟨_, rfl, zx_mem 849 (by decide +kernel) rfl⟩⟩
set_option maxRecDepth 100000 in
theorem pl_M_27 : zx_pl 11 27 .int := ⟨"StillPictureModel", zt_M, 47, zy_M, rfl, zy_M_ok, zn_M, rfl, by decide +kernel⟩
set_option maxRecDepth 100000 in
theorem fl_M_210 : zx_fl "StillPictureModel" 210 11 30 := ⟨"StillPictureModel", zt_M, 47, rfl, by decide, uw_M, Or.inl ⟨_, rfl, zx_mem 852 (by decide +kernel) rfl⟩⟩
set_option maxRecDepth 100000 in
theorem pl_M_30 : zx_pl 11 30 .int := ⟨"StillPictureModel", zt_M, 47, zy_M, rfl, zy_M_ok, zn_M, rfl, by decide +kernel⟩
set_option maxRecDepth 100000 in
theorem fl_M_223 : zx_fl "StillPictureModel" 223 11 37 := ⟨"StillPictureModel", zt_M, 47, rfl, by decide, uw_M, Or.inl ⟨_, rfl, zx_mem 859 (by decide +kernel) rfl⟩⟩
set_option maxRecDepth 100000 in
theorem pl_M_37 : zx_pl 11 37 .int := ⟨"StillPictureModel", zt_M, 47, zy_M, rfl, zy_M_ok, zn_M, rfl, by decide +kernel⟩
set_option maxRecDepth 100000 in
theorem fl_M_204 : zx_fl "StillPictureModel" 204 11 28 := ⟨"StillPictureModel", zt_M, 47, rfl, by decide, uw_M, Or.inl ⟨_, rfl, zx_mem 850 (by decide +kernel) rfl⟩⟩
set_option maxRecDepth 100000 in
theorem pl_M_28 : zx_pl 11 28 .int := ⟨"StillPictureModel", zt_M, 47, zy_M, rfl, zy_M_ok, zn_M, rfl, by decide +kernel⟩
set_option maxRecDepth 100000 in
theorem fl_M_201 : zx_fl "StillPictureModel" 201 11 29 := ⟨"StillPictureModel", zt_M, 47, rfl, by decide, uw_M, Or.inl ⟨_, rfl, zx_mem 851 (by decide +kernel) rfl⟩⟩
set_option maxRecDepth 100000 in
theorem pl_M_29 : zx_pl 11 29 .int := ⟨"StillPictureModel", zt_M, 47, zy_M, rfl, zy_M_ok, zn_M, rfl, by decide +kernel⟩
set_option maxRecDepth 100000 in
theorem fl_M_46 : zx_fl "StillPictureModel" 46 11 38 := ⟨"StillPictureModel", zt_M, 47, rfl, by decide, uw_M, Or.inl ⟨_, rfl, zx_mem 860 (by decide +kernel) rfl⟩⟩
set_option maxRecDepth 100000 in
theorem fl_M_183 : zx_fl "StillPictureModel" 183 11 21 := ⟨"StillPictureModel", zt_M, 47, rfl, by decide, uw_M, Or.inl ⟨_, rfl, zx_mem 843 (by decide +kernel) rfl⟩⟩
set_option maxRecDepth 100000 in
theorem fl_M_49 : zx_fl "StillPictureModel" 49 11 39 := ⟨"StillPictureModel", zt_M, 47, rfl, by decide, uw_M, Or.inl ⟨_, rfl, zx_mem 861 (by decide +kernel) rfl⟩⟩
set_option maxRecDepth 100000 in
theorem fl_M_52 : zx_fl "StillPictureModel" 52 11 40 := ⟨"StillPictureModel", zt_M, 47, rfl, by decide, uw_M, Or.inl ⟨_, rfl, zx_mem 862 (by decide +kernel) rfl⟩⟩
set_option maxRecDepth 100000 in
theorem fl_M_58 : zx_fl "StillPictureModel" 58 11 42 := ⟨"StillPictureModel", zt_M, 47, rfl, by decide, uw_M, Or.inl ⟨_, rfl, zx_mem 864 (by decide +kernel) rfl⟩⟩
set_option maxRecDepth 100000 in
theorem fl_M_248 : zx_fl "StillPictureModel" 248 11 44 := ⟨"StillPictureModel", zt_M, 47, rfl, by decide, uw_M, Or.inl ⟨_, rfl, zx_mem 866 (by decide +kernel) rfl⟩⟩
set_option maxRecDepth 100000 in
theorem fl_M_61 : zx_fl "StillPictureModel" 61 11 43 := ⟨"StillPictureModel", zt_M, 47, rfl, by decide, uw_M, Or.inl ⟨_, rfl, zx_mem 865 (by decide +kernel) rfl⟩⟩
set_option maxRecDepth 100000 in
theorem fl_M_64 : zx_fl "StillPictureModel" 64 11 45 := ⟨"StillPictureModel", zt_M, 47, rfl, by decide, uw_M, Or.inl ⟨_, rfl, zx_mem 867 (by decide +kernel) rfl⟩⟩
set_option maxRecDepth 100000 in
theorem ct_M_266 : Cond.constant "StillPictureModel" 266 2000000000 ∈ zx_ws := zx_mem 1100 (by decide +kernel) rfl
set_option maxRecDepth 100000 in
theorem fl_M_195 : zx_fl "StillPictureModel" 195 11 25 := ⟨"StillPictureModel", zt_M, 47, rfl, by decide, uw_M, Or.inl ⟨_, rfl, zx_mem 847 (by decide +kernel) rfl⟩⟩
set_option maxRecDepth 100000 in
theorem fl_M_198 : zx_fl "StillPictureModel" 198 11 26 := ⟨"StillPictureModel", zt_M, 47, rfl, by decide, uw_M, Or.inl ⟨_, rfl, zx_mem 848 (by decide +kernel) rfl⟩⟩
set_option maxRecDepth 100000 in
theorem fl_M_28 : zx_fl "StillPictureModel" 28 11 9 := ⟨"StillPictureModel", zt_M, 47, rfl, by decide, uw_M, Or.inl ⟨_, rfl, zx_mem 831 (by decide +kernel) rfl⟩⟩
set_option maxRecDepth 100000 in
theorem fl_M_186 : zx_fl "StillPictureModel" 186 11 22 := ⟨"StillPictureModel", zt_M, 47, rfl, by decide, uw_M, Or.inl ⟨_, rfl, zx_mem 844 (by decide +kernel) rfl⟩⟩
set_option maxRecDepth 100000 in
theorem fl_M_55 : zx_fl "StillPictureModel" 55 11 41 := ⟨"StillPictureModel", zt_M, 47, rfl, by decide, uw_M, Or.inl ⟨_, rfl, zx_mem 863 (by decide +kernel) rfl⟩⟩
set_option maxRecDepth 100000 in
theorem fl_M_67 : zx_fl "StillPictureModel" 67 11 46 := ⟨"StillPictureModel", zt_M, 47, rfl, by decide, uw_M, Or.inl ⟨_, rfl, zx_mem 868 (by decide +kernel) rfl⟩⟩
set_option maxRecDepth 100000 in
theorem pl_M_44 : zx_pl 11 44 .int := ⟨"StillPictureModel", zt_M, 47, zy_M, rfl, zy_M_ok, zn_M, rfl, by decide +kernel⟩
set_option maxRecDepth 100000 in
theorem fl_M_129 : zx_fl "StillPictureModel" 129 11 8 := ⟨"StillPictureModel", zt_M, 47, rfl, by decide, uw_M, Or.inl ⟨_, rfl, zx_mem 830 (by decide +kernel) rfl⟩⟩
set_option maxRecDepth 100000 in
theorem fl_M_123 : zx_fl "StillPictureModel" 123 11 11 := ⟨"StillPictureModel", zt_M, 47, rfl, by decide, uw_M, Or.inl ⟨_, rfl, zx_mem 833 (by decide +kernel) rfl⟩⟩
set_option maxRecDepth 100000 in
theorem pl_M_11 : zx_pl 11 11 .int := ⟨"StillPictureModel", zt_M, 47, zy_M, rfl, zy_M_ok, zn_M, rfl, by decide +kernel⟩
set_option maxRecDepth 100000 in
theorem fl_M_126 : zx_fl "StillPictureModel" 126 11 12 := ⟨"StillPictureModel", zt_M, 47, rfl, by decide, uw_M, Or.inl ⟨_, rfl, zx_mem 834 (by decide +kernel) rfl⟩⟩
set_option maxRecDepth 100000 in
theorem pl_M_12 : zx_pl 11 12 .int := ⟨"StillPictureModel", zt_M, 47, zy_M, rfl, zy_M_ok, zn_M, rfl, by decide +kernel⟩
set_option maxRecDepth 100000 in
theorem pl_M_24 : zx_pl 11 24 .int := ⟨"StillPictureModel", zt_M, 47, zy_M, rfl, zy_M_ok, zn_M, rfl, by decide +kernel⟩
set_option maxRecDepth 100000 in
theorem pl_M_25 : zx_pl 11 25 .int := ⟨"StillPictureModel", zt_M, 47, zy_M, rfl, zy_M_ok, zn_M, rfl, by decide +kernel⟩
set_option maxRecDepth 100000 in
theorem pl_M_26 : zx_pl 11 26 .int := ⟨"StillPictureModel", zt_M, 47, zy_M, rfl, zy_M_ok, zn_M, rfl, by decide +kernel⟩
set_option maxRecDepth 100000 in
theorem pl_M_21 : zx_pl 11 21 .int := ⟨"StillPictureModel", zt_M, 47, zy_M, rfl, zy_M_ok, zn_M, rfl, by decide +kernel⟩
set_option maxRecDepth 100000 in
theorem pl_M_22 : zx_pl 11 22 .int := ⟨"StillPictureModel", zt_M, 47, zy_M, rfl, zy_M_ok, zn_M, rfl, by decide +kernel⟩
set_option maxRecDepth 100000 in
theorem pl_M_23 : zx_pl 11 23 .int := ⟨"StillPictureModel", zt_M, 47, zy_M, rfl, zy_M_ok, zn_M, rfl, by decide +kernel⟩
set_option maxRecDepth 100000 in
theorem fl_M_180 : zx_fl "StillPictureModel" 180 11 20 := ⟨"StillPictureModel", zt_M, 47, rfl, by decide, uw_M, Or.inl ⟨_, rfl, zx_mem 842 (by decide +kernel) rfl⟩⟩
set_option maxRecDepth 100000 in
theorem fl_M_145 : zx_fl "StillPictureModel" 145 11 15 := ⟨"StillPictureModel", zt_M, 47, rfl, by decide, uw_M, Or.inl ⟨_, rfl, zx_mem 837 (by decide +kernel) rfl⟩⟩
set_option maxRecDepth 100000 in
theorem pl_M_17 : zx_pl 11 17 .int := ⟨"StillPictureModel", zt_M, 47, zy_M, rfl, zy_M_ok, zn_M, rfl, by decide +kernel⟩
set_option maxRecDepth 100000 in
theorem pl_M_18 : zx_pl 11 18 .int := ⟨"StillPictureModel", zt_M, 47, zy_M, rfl, zy_M_ok, zn_M, rfl, by decide +kernel⟩
set_option maxRecDepth 100000 in
theorem pl_M_19 : zx_pl 11 19 .int := ⟨"StillPictureModel", zt_M, 47, zy_M, rfl, zy_M_ok, zn_M, rfl, by decide +kernel⟩
set_option maxRecDepth 100000 in
theorem pl_M_20 : zx_pl 11 20 .int := ⟨"StillPictureModel", zt_M, 47, zy_M, rfl, zy_M_ok, zn_M, rfl, by decide +kernel⟩
set_option maxRecDepth 100000 in
theorem fl_M_139 : zx_fl "StillPictureModel" 139 11 13 := ⟨"StillPictureModel", zt_M, 47, rfl, by decide, uw_M, Or.inl ⟨_, rfl, zx_mem 835 (by decide +kernel) rfl⟩⟩
set_option maxRecDepth 100000 in
theorem fl_M_142 : zx_fl "StillPictureModel" 142 11 14 := ⟨"StillPictureModel", zt_M, 47, rfl, by decide, uw_M, Or.inl ⟨_, rfl, zx_mem 836 (by decide +kernel) rfl⟩⟩
set_option maxRecDepth 100000 in
theorem pl_M_16 : zx_pl 11 16 .int := ⟨"StillPictureModel", zt_M, 47, zy_M, rfl, zy_M_ok, zn_M, rfl, by decide +kernel⟩
set_option maxRecDepth 100000 in
theorem fl_M_22 : zx_fl "StillPictureModel" 22 11 6 := ⟨"StillPictureModel", zt_M, 47, rfl, by decide, uw_M, Or.inl ⟨_, rfl, zx_mem 828 (by decide +kernel) rfl⟩⟩
set_option maxRecDepth 100000 in
theorem fl_M_19 : zx_fl "StillPictureModel" 19 11 5 := ⟨"StillPictureModel", zt_M, 47, rfl, by decide, uw_M, Or.inl ⟨_, rfl, zx_mem 827 (by decide +kernel) rfl⟩⟩
set_option maxRecDepth 100000 in
theorem fl_M_112 : zx_fl "StillPictureModel" 112 11 2 := ⟨"StillPictureModel", zt_M, 47, rfl, by decide, uw_M, Or.inl ⟨_, rfl, zx_mem 824 (by decide +kernel) rfl⟩⟩
set_option maxRecDepth 100000 in
theorem fl_M_16 : zx_fl "StillPictureModel" 16 11 4 := ⟨"StillPictureModel", zt_M, 47, rfl, by decide, uw_M, Or.inl ⟨_, rfl, zx_mem 826 (by decide +kernel) rfl⟩⟩
set_option maxRecDepth 100000 in
theorem pl_M_13 : zx_pl 11 13 .int := ⟨"StillPictureModel", zt_M, 47, zy_M, rfl, zy_M_ok, zn_M, rfl, by decide +kernel⟩
set_option maxRecDepth 100000 in
theorem pl_M_14 : zx_pl 11 14 .int := ⟨"StillPictureModel", zt_M, 47, zy_M, rfl, zy_M_ok, zn_M, rfl, by decide +kernel⟩
set_option maxRecDepth 100000 in
theorem pl_M_15 : zx_pl 11 15 .int := ⟨"StillPictureModel", zt_M, 47, zy_M, rfl, zy_M_ok, zn_M, rfl, by decide +kernel⟩
set_option maxRecDepth 100000 in
theorem pl_M_8 : zx_pl 11 8 .int := ⟨"StillPictureModel", zt_M, 47, zy_M, rfl, zy_M_ok, zn_M, rfl, by decide +kernel⟩
set_option maxRecDepth 100000 in
theorem fl_M_25 : zx_fl "StillPictureModel" 25 11 7 := ⟨"StillPictureModel", zt_M, 47, rfl, by decide, uw_M, Or.inl ⟨_, rfl, zx_mem 829 (by decide +kernel) rfl⟩⟩
set_option maxRecDepth 100000 in
theorem pl_M_2 : zx_pl 11 2 .int := ⟨"StillPictureModel", zt_M, 47, zy_M, rfl, zy_M_ok, zn_M, rfl, by decide +kernel⟩
