theorem lk_L_15 : Cond.methodLink RL 15 yX8_write ∈ aw := aw_at 305 (by decide +kernel) (by decide +kernel)
theorem lk_L_19 : Cond.methodLink RL 19 yX9_write ∈ aw := aw_at 882 (by decide +kernel) (by decide +kernel)
theorem lk_L_20 : Cond.methodLink RL 20 yX8_wipe ∈ aw := aw_at 319 (by decide +kernel) (by decide +kernel)
theorem lk_L_24 : Cond.methodLink RL 24 yX9_wipe ∈ aw := aw_at 891 (by decide +kernel) (by decide +kernel)
theorem lk_L_25 : Cond.methodLink RL 25 yX8_fault ∈ aw := aw_at 327 (by decide +kernel) (by decide +kernel)
theorem lk_L_28 : Cond.methodLink RL 28 yX9_fault ∈ aw := aw_at 895 (by decide +kernel) (by decide +kernel)
theorem lk_L_29 : Cond.methodLink RL 29 yX8_room ∈ aw := aw_at 355 (by decide +kernel) (by decide +kernel)
theorem lk_L_32 : Cond.methodLink RL 32 yX9_room ∈ aw := aw_at 912 (by decide +kernel) (by decide +kernel)
theorem lk_L_33 : Cond.methodLink RL 33 yX8_about ∈ aw := aw_at 373 (by decide +kernel) (by decide +kernel)
theorem lk_L_37 : Cond.methodLink RL 37 yX9_about ∈ aw := aw_at 916 (by decide +kernel) (by decide +kernel)
theorem lk_L_38 : Cond.methodLink RL 38 yX8_mood ∈ aw := aw_at 391 (by decide +kernel) (by decide +kernel)
theorem lk_L_42 : Cond.methodLink RL 42 yX9_mood ∈ aw := aw_at 925 (by decide +kernel) (by decide +kernel)
theorem lk_L_43 : Cond.methodLink RL 43 yX8_up ∈ aw := aw_at 395 (by decide +kernel) (by decide +kernel)
theorem lk_L_46 : Cond.methodLink RL 46 yX9_up ∈ aw := aw_at 929 (by decide +kernel) (by decide +kernel)
theorem lk_L_47 : Cond.methodLink RL 47 yX8_mean ∈ aw := aw_at 414 (by decide +kernel) (by decide +kernel)
theorem lk_L_50 : Cond.methodLink RL 50 yX9_mean ∈ aw := aw_at 940 (by decide +kernel) (by decide +kernel)
theorem lk_L_51 : Cond.methodLink RL 51 yX8_quiet ∈ aw := aw_at 423 (by decide +kernel) (by decide +kernel)
theorem lk_L_54 : Cond.methodLink RL 54 yX9_quiet ∈ aw := aw_at 948 (by decide +kernel) (by decide +kernel)
theorem lk_L_55 : Cond.methodLink RL 55 yX8_hands ∈ aw := aw_at 431 (by decide +kernel) (by decide +kernel)
theorem lk_L_59 : Cond.methodLink RL 59 yX9_hands ∈ aw := aw_at 952 (by decide +kernel) (by decide +kernel)
theorem lk_L_60 : Cond.methodLink RL 60 yX8_given ∈ aw := aw_at 475 (by decide +kernel) (by decide +kernel)
theorem lk_L_64 : Cond.methodLink RL 64 yX9_given ∈ aw := aw_at 974 (by decide +kernel) (by decide +kernel)
theorem lk_L_65 : Cond.methodLink RL 65 yX8_likely ∈ aw := aw_at 481 (by decide +kernel) (by decide +kernel)
theorem lk_L_68 : Cond.methodLink RL 68 yX9_likely ∈ aw := aw_at 979 (by decide +kernel) (by decide +kernel)
theorem lk_L_69 : Cond.methodLink RL 69 yX8_taken ∈ aw := aw_at 490 (by decide +kernel) (by decide +kernel)
theorem lk_L_72 : Cond.methodLink RL 72 yX9_taken ∈ aw := aw_at 983 (by decide +kernel) (by decide +kernel)
theorem lk_L_73 : Cond.methodLink RL 73 yX8_right ∈ aw := aw_at 553 (by decide +kernel) (by decide +kernel)
theorem lk_L_76 : Cond.methodLink RL 76 yX9_right ∈ aw := aw_at 1005 (by decide +kernel) (by decide +kernel)
theorem lk_L_77 : Cond.methodLink RL 77 yX8_mostly ∈ aw := aw_at 561 (by decide +kernel) (by decide +kernel)
theorem lk_L_80 : Cond.methodLink RL 80 yX9_mostly ∈ aw := aw_at 1009 (by decide +kernel) (by decide +kernel)
theorem lk_L_81 : Cond.methodLink RL 81 yX8_await ∈ aw := aw_at 570 (by decide +kernel) (by decide +kernel)
theorem lk_L_84 : Cond.methodLink RL 84 yX9_await ∈ aw := aw_at 1013 (by decide +kernel) (by decide +kernel)
theorem lk_L_85 : Cond.methodLink RL 85 yX8_raised ∈ aw := aw_at 579 (by decide +kernel) (by decide +kernel)
theorem lk_L_88 : Cond.methodLink RL 88 yX9_raised ∈ aw := aw_at 1018 (by decide +kernel) (by decide +kernel)
theorem lk_L_89 : Cond.methodLink RL 89 yX8_silent ∈ aw := aw_at 598 (by decide +kernel) (by decide +kernel)
theorem lk_L_92 : Cond.methodLink RL 92 yX9_silent ∈ aw := aw_at 1030 (by decide +kernel) (by decide +kernel)
theorem lk_L_93 : Cond.methodLink RL 93 yX8_seed ∈ aw := aw_at 602 (by decide +kernel) (by decide +kernel)
theorem lk_L_97 : Cond.methodLink RL 97 yX9_seed ∈ aw := aw_at 1034 (by decide +kernel) (by decide +kernel)
theorem lk_L_98 : Cond.methodLink RL 98 yX8_ask ∈ aw := aw_at 606 (by decide +kernel) (by decide +kernel)
theorem lk_L_102 : Cond.methodLink RL 102 yX9_ask ∈ aw := aw_at 1038 (by decide +kernel) (by decide +kernel)
theorem lk_L_103 : Cond.methodLink RL 103 yX8_lesson ∈ aw := aw_at 650 (by decide +kernel) (by decide +kernel)
theorem lk_L_106 : Cond.methodLink RL 106 yX9_lesson ∈ aw := aw_at 1055 (by decide +kernel) (by decide +kernel)
theorem lk_L_107 : Cond.methodLink RL 107 yX8_tape ∈ aw := aw_at 663 (by decide +kernel) (by decide +kernel)
theorem lk_L_110 : Cond.methodLink RL 110 yX9_tape ∈ aw := aw_at 1059 (by decide +kernel) (by decide +kernel)
theorem lk_L_111 : Cond.methodLink RL 111 yX8_untape ∈ aw := aw_at 672 (by decide +kernel) (by decide +kernel)
theorem lk_L_114 : Cond.methodLink RL 114 yX9_untape ∈ aw := aw_at 1065 (by decide +kernel) (by decide +kernel)
theorem lk_L_115 : Cond.methodLink RL 115 yX8_came ∈ aw := aw_at 680 (by decide +kernel) (by decide +kernel)
theorem lk_L_118 : Cond.methodLink RL 118 yX9_came ∈ aw := aw_at 1069 (by decide +kernel) (by decide +kernel)
theorem lk_L_119 : Cond.methodLink RL 119 yX8_due ∈ aw := aw_at 690 (by decide +kernel) (by decide +kernel)
theorem lk_L_123 : Cond.methodLink RL 123 yX9_due ∈ aw := aw_at 1080 (by decide +kernel) (by decide +kernel)
theorem lk_L_124 : Cond.methodLink RL 124 yX8_luck ∈ aw := aw_at 701 (by decide +kernel) (by decide +kernel)
theorem lk_L_127 : Cond.methodLink RL 127 yX9_luck ∈ aw := aw_at 1084 (by decide +kernel) (by decide +kernel)
theorem lk_L_128 : Cond.methodLink RL 128 yX8_boards ∈ aw := aw_at 717 (by decide +kernel) (by decide +kernel)
theorem lk_L_132 : Cond.methodLink RL 132 yX9_boards ∈ aw := aw_at 1088 (by decide +kernel) (by decide +kernel)
theorem lk_L_133 : Cond.methodLink RL 133 yX8_span ∈ aw := aw_at 727 (by decide +kernel) (by decide +kernel)
theorem lk_L_136 : Cond.methodLink RL 136 yX9_span ∈ aw := aw_at 1096 (by decide +kernel) (by decide +kernel)
theorem lk_L_137 : Cond.methodLink RL 137 yX8_trial ∈ aw := aw_at 732 (by decide +kernel) (by decide +kernel)
theorem lk_L_141 : Cond.methodLink RL 141 yX9_trial ∈ aw := aw_at 1101 (by decide +kernel) (by decide +kernel)
theorem lk_L_142 : Cond.methodLink RL 142 yX8_untrial ∈ aw := aw_at 741 (by decide +kernel) (by decide +kernel)
theorem lk_L_145 : Cond.methodLink RL 145 yX9_untrial ∈ aw := aw_at 1105 (by decide +kernel) (by decide +kernel)
theorem lk_L_146 : Cond.methodLink RL 146 yX8_chance ∈ aw := aw_at 749 (by decide +kernel) (by decide +kernel)
theorem lk_L_150 : Cond.methodLink RL 150 yX9_chance ∈ aw := aw_at 1109 (by decide +kernel) (by decide +kernel)
theorem lk_L_151 : Cond.methodLink RL 151 yX8_until ∈ aw := aw_at 764 (by decide +kernel) (by decide +kernel)
theorem lk_L_154 : Cond.methodLink RL 154 yX9_until ∈ aw := aw_at 1117 (by decide +kernel) (by decide +kernel)
theorem lk_L_155 : Cond.methodLink RL 155 yX8_keep ∈ aw := aw_at 769 (by decide +kernel) (by decide +kernel)
theorem lk_L_158 : Cond.methodLink RL 158 yX9_keep ∈ aw := aw_at 1121 (by decide +kernel) (by decide +kernel)
theorem lk_L_159 : Cond.methodLink RL 159 yX8_again ∈ aw := aw_at 781 (by decide +kernel) (by decide +kernel)
theorem lk_L_162 : Cond.methodLink RL 162 yX9_again ∈ aw := aw_at 1125 (by decide +kernel) (by decide +kernel)
theorem lk_L_163 : Cond.methodLink RL 163 yX8_count ∈ aw := aw_at 785 (by decide +kernel) (by decide +kernel)
theorem lk_L_166 : Cond.methodLink RL 166 yX9_count ∈ aw := aw_at 1129 (by decide +kernel) (by decide +kernel)
theorem cq_X8_about : cqV yX8_about cX8_about 3 (some .int) 2 := ⟨⟨aw_at 376 (by decide +kernel) (by decide +kernel), aw_at 78 (by decide +kernel) (by decide +kernel), by decide +kernel, by decide +kernel, by decide +kernel⟩, aw_at 374 (by decide +kernel) (by decide +kernel), aw_at 375 (by decide +kernel) (by decide +kernel)⟩
theorem cq_X8_again : cqV yX8_again cX8_again 3 (some .int) 1 := ⟨⟨aw_at 784 (by decide +kernel) (by decide +kernel), aw_at 78 (by decide +kernel) (by decide +kernel), by decide +kernel, by decide +kernel, by decide +kernel⟩, aw_at 782 (by decide +kernel) (by decide +kernel), aw_at 783 (by decide +kernel) (by decide +kernel)⟩
theorem cq_X8_ask : cqV yX8_ask cX8_ask 6 (some .int) 4 := ⟨⟨aw_at 609 (by decide +kernel) (by decide +kernel), aw_at 78 (by decide +kernel) (by decide +kernel), by decide +kernel, by decide +kernel, by decide +kernel⟩, aw_at 607 (by decide +kernel) (by decide +kernel), aw_at 608 (by decide +kernel) (by decide +kernel)⟩
theorem cq_X8_await : cqV yX8_await cX8_await 3 (some .int) 2 := ⟨⟨aw_at 573 (by decide +kernel) (by decide +kernel), aw_at 78 (by decide +kernel) (by decide +kernel), by decide +kernel, by decide +kernel, by decide +kernel⟩, aw_at 571 (by decide +kernel) (by decide +kernel), aw_at 572 (by decide +kernel) (by decide +kernel)⟩
theorem cq_X8_boards : cqV yX8_boards cX8_boards 6 (some .long) 5 := ⟨⟨aw_at 720 (by decide +kernel) (by decide +kernel), aw_at 78 (by decide +kernel) (by decide +kernel), by decide +kernel, by decide +kernel, by decide +kernel⟩, aw_at 718 (by decide +kernel) (by decide +kernel), aw_at 719 (by decide +kernel) (by decide +kernel)⟩
theorem cq_X8_came : cqV yX8_came cX8_came 2 (some .int) 1 := ⟨⟨aw_at 683 (by decide +kernel) (by decide +kernel), aw_at 78 (by decide +kernel) (by decide +kernel), by decide +kernel, by decide +kernel, by decide +kernel⟩, aw_at 681 (by decide +kernel) (by decide +kernel), aw_at 682 (by decide +kernel) (by decide +kernel)⟩
theorem cq_X8_chance : cqV yX8_chance cX8_chance 2 (some .long) 1 := ⟨⟨aw_at 752 (by decide +kernel) (by decide +kernel), aw_at 78 (by decide +kernel) (by decide +kernel), by decide +kernel, by decide +kernel, by decide +kernel⟩, aw_at 750 (by decide +kernel) (by decide +kernel), aw_at 751 (by decide +kernel) (by decide +kernel)⟩
theorem cq_X8_count : cqV yX8_count cX8_count 2 (some .int) 1 := ⟨⟨aw_at 788 (by decide +kernel) (by decide +kernel), aw_at 78 (by decide +kernel) (by decide +kernel), by decide +kernel, by decide +kernel, by decide +kernel⟩, aw_at 786 (by decide +kernel) (by decide +kernel), aw_at 787 (by decide +kernel) (by decide +kernel)⟩
theorem cq_X8_due : cqV yX8_due cX8_due 3 (some .long) 2 := ⟨⟨aw_at 693 (by decide +kernel) (by decide +kernel), aw_at 78 (by decide +kernel) (by decide +kernel), by decide +kernel, by decide +kernel, by decide +kernel⟩, aw_at 691 (by decide +kernel) (by decide +kernel), aw_at 692 (by decide +kernel) (by decide +kernel)⟩
theorem cq_X8_fault : cqV yX8_fault cX8_fault 1 (some .int) 0 := ⟨⟨aw_at 330 (by decide +kernel) (by decide +kernel), aw_at 78 (by decide +kernel) (by decide +kernel), by decide +kernel, by decide +kernel, by decide +kernel⟩, aw_at 328 (by decide +kernel) (by decide +kernel), aw_at 329 (by decide +kernel) (by decide +kernel)⟩
theorem cq_X8_given : cqV yX8_given cX8_given 7 (some .long) 4 := ⟨⟨aw_at 478 (by decide +kernel) (by decide +kernel), aw_at 78 (by decide +kernel) (by decide +kernel), by decide +kernel, by decide +kernel, by decide +kernel⟩, aw_at 476 (by decide +kernel) (by decide +kernel), aw_at 477 (by decide +kernel) (by decide +kernel)⟩
theorem cq_X8_hands : cqV yX8_hands cX8_hands 4 (some .long) 3 := ⟨⟨aw_at 434 (by decide +kernel) (by decide +kernel), aw_at 78 (by decide +kernel) (by decide +kernel), by decide +kernel, by decide +kernel, by decide +kernel⟩, aw_at 432 (by decide +kernel) (by decide +kernel), aw_at 433 (by decide +kernel) (by decide +kernel)⟩
theorem cq_X8_keep : cqV yX8_keep cX8_keep 3 (some .int) 1 := ⟨⟨aw_at 772 (by decide +kernel) (by decide +kernel), aw_at 78 (by decide +kernel) (by decide +kernel), by decide +kernel, by decide +kernel, by decide +kernel⟩, aw_at 770 (by decide +kernel) (by decide +kernel), aw_at 771 (by decide +kernel) (by decide +kernel)⟩
theorem cq_X8_lesson : cqV yX8_lesson cX8_lesson 2 (some .int) 1 := ⟨⟨aw_at 653 (by decide +kernel) (by decide +kernel), aw_at 78 (by decide +kernel) (by decide +kernel), by decide +kernel, by decide +kernel, by decide +kernel⟩, aw_at 651 (by decide +kernel) (by decide +kernel), aw_at 652 (by decide +kernel) (by decide +kernel)⟩
theorem cq_X8_likely : cqV yX8_likely cX8_likely 3 (some .int) 2 := ⟨⟨aw_at 484 (by decide +kernel) (by decide +kernel), aw_at 78 (by decide +kernel) (by decide +kernel), by decide +kernel, by decide +kernel, by decide +kernel⟩, aw_at 482 (by decide +kernel) (by decide +kernel), aw_at 483 (by decide +kernel) (by decide +kernel)⟩
theorem cq_X8_luck : cqV yX8_luck cX8_luck 3 (some .long) 2 := ⟨⟨aw_at 704 (by decide +kernel) (by decide +kernel), aw_at 78 (by decide +kernel) (by decide +kernel), by decide +kernel, by decide +kernel, by decide +kernel⟩, aw_at 702 (by decide +kernel) (by decide +kernel), aw_at 703 (by decide +kernel) (by decide +kernel)⟩
theorem cq_X8_mean : cqV yX8_mean cX8_mean 2 (some .int) 1 := ⟨⟨aw_at 417 (by decide +kernel) (by decide +kernel), aw_at 78 (by decide +kernel) (by decide +kernel), by decide +kernel, by decide +kernel, by decide +kernel⟩, aw_at 415 (by decide +kernel) (by decide +kernel), aw_at 416 (by decide +kernel) (by decide +kernel)⟩
theorem cq_X8_mood : cqV yX8_mood cX8_mood 3 (some .int) 1 := ⟨⟨aw_at 394 (by decide +kernel) (by decide +kernel), aw_at 78 (by decide +kernel) (by decide +kernel), by decide +kernel, by decide +kernel, by decide +kernel⟩, aw_at 392 (by decide +kernel) (by decide +kernel), aw_at 393 (by decide +kernel) (by decide +kernel)⟩
theorem cq_X8_mostly : cqV yX8_mostly cX8_mostly 3 (some .int) 2 := ⟨⟨aw_at 564 (by decide +kernel) (by decide +kernel), aw_at 78 (by decide +kernel) (by decide +kernel), by decide +kernel, by decide +kernel, by decide +kernel⟩, aw_at 562 (by decide +kernel) (by decide +kernel), aw_at 563 (by decide +kernel) (by decide +kernel)⟩
theorem cq_X8_quiet : cqV yX8_quiet cX8_quiet 2 (some .int) 1 := ⟨⟨aw_at 426 (by decide +kernel) (by decide +kernel), aw_at 78 (by decide +kernel) (by decide +kernel), by decide +kernel, by decide +kernel, by decide +kernel⟩, aw_at 424 (by decide +kernel) (by decide +kernel), aw_at 425 (by decide +kernel) (by decide +kernel)⟩
theorem cq_X8_raised : cqV yX8_raised cX8_raised 3 (some .int) 2 := ⟨⟨aw_at 582 (by decide +kernel) (by decide +kernel), aw_at 78 (by decide +kernel) (by decide +kernel), by decide +kernel, by decide +kernel, by decide +kernel⟩, aw_at 580 (by decide +kernel) (by decide +kernel), aw_at 581 (by decide +kernel) (by decide +kernel)⟩
theorem cq_X8_right : cqV yX8_right cX8_right 4 (some .long) 3 := ⟨⟨aw_at 556 (by decide +kernel) (by decide +kernel), aw_at 78 (by decide +kernel) (by decide +kernel), by decide +kernel, by decide +kernel, by decide +kernel⟩, aw_at 554 (by decide +kernel) (by decide +kernel), aw_at 555 (by decide +kernel) (by decide +kernel)⟩
theorem cq_X8_room : cqV yX8_room cX8_room 1 (some .int) 0 := ⟨⟨aw_at 358 (by decide +kernel) (by decide +kernel), aw_at 78 (by decide +kernel) (by decide +kernel), by decide +kernel, by decide +kernel, by decide +kernel⟩, aw_at 356 (by decide +kernel) (by decide +kernel), aw_at 357 (by decide +kernel) (by decide +kernel)⟩
theorem cq_X8_seed : cqV yX8_seed cX8_seed 5 (some .long) 1 := ⟨⟨aw_at 605 (by decide +kernel) (by decide +kernel), aw_at 78 (by decide +kernel) (by decide +kernel), by decide +kernel, by decide +kernel, by decide +kernel⟩, aw_at 603 (by decide +kernel) (by decide +kernel), aw_at 604 (by decide +kernel) (by decide +kernel)⟩
theorem cq_X8_silent : cqV yX8_silent cX8_silent 3 (some .int) 2 := ⟨⟨aw_at 601 (by decide +kernel) (by decide +kernel), aw_at 78 (by decide +kernel) (by decide +kernel), by decide +kernel, by decide +kernel, by decide +kernel⟩, aw_at 599 (by decide +kernel) (by decide +kernel), aw_at 600 (by decide +kernel) (by decide +kernel)⟩
theorem cq_X8_span : cqV yX8_span cX8_span 10 (some .int) 4 := ⟨⟨aw_at 730 (by decide +kernel) (by decide +kernel), aw_at 78 (by decide +kernel) (by decide +kernel), by decide +kernel, by decide +kernel, by decide +kernel⟩, aw_at 728 (by decide +kernel) (by decide +kernel), aw_at 729 (by decide +kernel) (by decide +kernel)⟩
theorem cq_X8_taken : cqV yX8_taken cX8_taken 5 (some .long) 4 := ⟨⟨aw_at 493 (by decide +kernel) (by decide +kernel), aw_at 78 (by decide +kernel) (by decide +kernel), by decide +kernel, by decide +kernel, by decide +kernel⟩, aw_at 491 (by decide +kernel) (by decide +kernel), aw_at 492 (by decide +kernel) (by decide +kernel)⟩
theorem cq_X8_tape : cqV yX8_tape cX8_tape 3 (some .int) 2 := ⟨⟨aw_at 666 (by decide +kernel) (by decide +kernel), aw_at 78 (by decide +kernel) (by decide +kernel), by decide +kernel, by decide +kernel, by decide +kernel⟩, aw_at 664 (by decide +kernel) (by decide +kernel), aw_at 665 (by decide +kernel) (by decide +kernel)⟩
theorem cq_X8_trial : cqV yX8_trial cX8_trial 3 (some .int) 2 := ⟨⟨aw_at 735 (by decide +kernel) (by decide +kernel), aw_at 78 (by decide +kernel) (by decide +kernel), by decide +kernel, by decide +kernel, by decide +kernel⟩, aw_at 733 (by decide +kernel) (by decide +kernel), aw_at 734 (by decide +kernel) (by decide +kernel)⟩
theorem cq_X8_untape : cqV yX8_untape cX8_untape 1 (some .int) 0 := ⟨⟨aw_at 675 (by decide +kernel) (by decide +kernel), aw_at 78 (by decide +kernel) (by decide +kernel), by decide +kernel, by decide +kernel, by decide +kernel⟩, aw_at 673 (by decide +kernel) (by decide +kernel), aw_at 674 (by decide +kernel) (by decide +kernel)⟩
theorem cq_X8_until : cqV yX8_until cX8_until 6 (some .long) 2 := ⟨⟨aw_at 767 (by decide +kernel) (by decide +kernel), aw_at 78 (by decide +kernel) (by decide +kernel), by decide +kernel, by decide +kernel, by decide +kernel⟩, aw_at 765 (by decide +kernel) (by decide +kernel), aw_at 766 (by decide +kernel) (by decide +kernel)⟩
theorem cq_X8_untrial : cqV yX8_untrial cX8_untrial 1 (some .int) 0 := ⟨⟨aw_at 744 (by decide +kernel) (by decide +kernel), aw_at 78 (by decide +kernel) (by decide +kernel), by decide +kernel, by decide +kernel, by decide +kernel⟩, aw_at 742 (by decide +kernel) (by decide +kernel), aw_at 743 (by decide +kernel) (by decide +kernel)⟩
theorem cq_X8_up : cqV yX8_up cX8_up 3 (some .int) 2 := ⟨⟨aw_at 398 (by decide +kernel) (by decide +kernel), aw_at 78 (by decide +kernel) (by decide +kernel), by decide +kernel, by decide +kernel, by decide +kernel⟩, aw_at 396 (by decide +kernel) (by decide +kernel), aw_at 397 (by decide +kernel) (by decide +kernel)⟩
theorem cq_X8_wipe : cqV yX8_wipe cX8_wipe 1 (some .int) 0 := ⟨⟨aw_at 322 (by decide +kernel) (by decide +kernel), aw_at 78 (by decide +kernel) (by decide +kernel), by decide +kernel, by decide +kernel, by decide +kernel⟩, aw_at 320 (by decide +kernel) (by decide +kernel), aw_at 321 (by decide +kernel) (by decide +kernel)⟩
theorem cq_X8_write : cqV yX8_write cX8_write 4 (some .int) 2 := ⟨⟨aw_at 308 (by decide +kernel) (by decide +kernel), aw_at 78 (by decide +kernel) (by decide +kernel), by decide +kernel, by decide +kernel, by decide +kernel⟩, aw_at 306 (by decide +kernel) (by decide +kernel), aw_at 307 (by decide +kernel) (by decide +kernel)⟩
theorem cq_X9_about : cqV yX9_about cX9_about 3 (some .int) 2 := ⟨⟨aw_at 919 (by decide +kernel) (by decide +kernel), aw_at 87 (by decide +kernel) (by decide +kernel), by decide +kernel, by decide +kernel, by decide +kernel⟩, aw_at 917 (by decide +kernel) (by decide +kernel), aw_at 918 (by decide +kernel) (by decide +kernel)⟩
theorem cq_X9_again : cqV yX9_again cX9_again 3 (some .int) 1 := ⟨⟨aw_at 1128 (by decide +kernel) (by decide +kernel), aw_at 87 (by decide +kernel) (by decide +kernel), by decide +kernel, by decide +kernel, by decide +kernel⟩, aw_at 1126 (by decide +kernel) (by decide +kernel), aw_at 1127 (by decide +kernel) (by decide +kernel)⟩
theorem cq_X9_ask : cqV yX9_ask cX9_ask 9 (some .int) 4 := ⟨⟨aw_at 1041 (by decide +kernel) (by decide +kernel), aw_at 87 (by decide +kernel) (by decide +kernel), by decide +kernel, by decide +kernel, by decide +kernel⟩, aw_at 1039 (by decide +kernel) (by decide +kernel), aw_at 1040 (by decide +kernel) (by decide +kernel)⟩
theorem cq_X9_await : cqV yX9_await cX9_await 5 (some .int) 2 := ⟨⟨aw_at 1016 (by decide +kernel) (by decide +kernel), aw_at 87 (by decide +kernel) (by decide +kernel), by decide +kernel, by decide +kernel, by decide +kernel⟩, aw_at 1014 (by decide +kernel) (by decide +kernel), aw_at 1015 (by decide +kernel) (by decide +kernel)⟩
theorem cq_X9_boards : cqV yX9_boards cX9_boards 6 (some .long) 5 := ⟨⟨aw_at 1091 (by decide +kernel) (by decide +kernel), aw_at 87 (by decide +kernel) (by decide +kernel), by decide +kernel, by decide +kernel, by decide +kernel⟩, aw_at 1089 (by decide +kernel) (by decide +kernel), aw_at 1090 (by decide +kernel) (by decide +kernel)⟩
theorem cq_X9_came : cqV yX9_came cX9_came 2 (some .int) 1 := ⟨⟨aw_at 1072 (by decide +kernel) (by decide +kernel), aw_at 87 (by decide +kernel) (by decide +kernel), by decide +kernel, by decide +kernel, by decide +kernel⟩, aw_at 1070 (by decide +kernel) (by decide +kernel), aw_at 1071 (by decide +kernel) (by decide +kernel)⟩
theorem cq_X9_chance : cqV yX9_chance cX9_chance 10 (some .long) 1 := ⟨⟨aw_at 1112 (by decide +kernel) (by decide +kernel), aw_at 87 (by decide +kernel) (by decide +kernel), by decide +kernel, by decide +kernel, by decide +kernel⟩, aw_at 1110 (by decide +kernel) (by decide +kernel), aw_at 1111 (by decide +kernel) (by decide +kernel)⟩
theorem cq_X9_count : cqV yX9_count cX9_count 2 (some .int) 1 := ⟨⟨aw_at 1132 (by decide +kernel) (by decide +kernel), aw_at 87 (by decide +kernel) (by decide +kernel), by decide +kernel, by decide +kernel, by decide +kernel⟩, aw_at 1130 (by decide +kernel) (by decide +kernel), aw_at 1131 (by decide +kernel) (by decide +kernel)⟩
theorem cq_X9_due : cqV yX9_due cX9_due 6 (some .long) 2 := ⟨⟨aw_at 1083 (by decide +kernel) (by decide +kernel), aw_at 87 (by decide +kernel) (by decide +kernel), by decide +kernel, by decide +kernel, by decide +kernel⟩, aw_at 1081 (by decide +kernel) (by decide +kernel), aw_at 1082 (by decide +kernel) (by decide +kernel)⟩
theorem cq_X9_fault : cqV yX9_fault cX9_fault 1 (some .int) 0 := ⟨⟨aw_at 898 (by decide +kernel) (by decide +kernel), aw_at 87 (by decide +kernel) (by decide +kernel), by decide +kernel, by decide +kernel, by decide +kernel⟩, aw_at 896 (by decide +kernel) (by decide +kernel), aw_at 897 (by decide +kernel) (by decide +kernel)⟩
theorem cq_X9_given : cqV yX9_given cX9_given 5 (some .long) 4 := ⟨⟨aw_at 977 (by decide +kernel) (by decide +kernel), aw_at 87 (by decide +kernel) (by decide +kernel), by decide +kernel, by decide +kernel, by decide +kernel⟩, aw_at 975 (by decide +kernel) (by decide +kernel), aw_at 976 (by decide +kernel) (by decide +kernel)⟩
theorem cq_X9_hands : cqV yX9_hands cX9_hands 4 (some .long) 3 := ⟨⟨aw_at 955 (by decide +kernel) (by decide +kernel), aw_at 87 (by decide +kernel) (by decide +kernel), by decide +kernel, by decide +kernel, by decide +kernel⟩, aw_at 953 (by decide +kernel) (by decide +kernel), aw_at 954 (by decide +kernel) (by decide +kernel)⟩
theorem cq_X9_keep : cqV yX9_keep cX9_keep 3 (some .int) 1 := ⟨⟨aw_at 1124 (by decide +kernel) (by decide +kernel), aw_at 87 (by decide +kernel) (by decide +kernel), by decide +kernel, by decide +kernel, by decide +kernel⟩, aw_at 1122 (by decide +kernel) (by decide +kernel), aw_at 1123 (by decide +kernel) (by decide +kernel)⟩
theorem cq_X9_lesson : cqV yX9_lesson cX9_lesson 5 (some .int) 1 := ⟨⟨aw_at 1058 (by decide +kernel) (by decide +kernel), aw_at 87 (by decide +kernel) (by decide +kernel), by decide +kernel, by decide +kernel, by decide +kernel⟩, aw_at 1056 (by decide +kernel) (by decide +kernel), aw_at 1057 (by decide +kernel) (by decide +kernel)⟩
theorem cq_X9_likely : cqV yX9_likely cX9_likely 5 (some .int) 2 := ⟨⟨aw_at 982 (by decide +kernel) (by decide +kernel), aw_at 87 (by decide +kernel) (by decide +kernel), by decide +kernel, by decide +kernel, by decide +kernel⟩, aw_at 980 (by decide +kernel) (by decide +kernel), aw_at 981 (by decide +kernel) (by decide +kernel)⟩
theorem cq_X9_luck : cqV yX9_luck cX9_luck 9 (some .long) 2 := ⟨⟨aw_at 1087 (by decide +kernel) (by decide +kernel), aw_at 87 (by decide +kernel) (by decide +kernel), by decide +kernel, by decide +kernel, by decide +kernel⟩, aw_at 1085 (by decide +kernel) (by decide +kernel), aw_at 1086 (by decide +kernel) (by decide +kernel)⟩
theorem cq_X9_mean : cqV yX9_mean cX9_mean 2 (some .int) 1 := ⟨⟨aw_at 943 (by decide +kernel) (by decide +kernel), aw_at 87 (by decide +kernel) (by decide +kernel), by decide +kernel, by decide +kernel, by decide +kernel⟩, aw_at 941 (by decide +kernel) (by decide +kernel), aw_at 942 (by decide +kernel) (by decide +kernel)⟩
theorem cq_X9_mood : cqV yX9_mood cX9_mood 3 (some .int) 1 := ⟨⟨aw_at 928 (by decide +kernel) (by decide +kernel), aw_at 87 (by decide +kernel) (by decide +kernel), by decide +kernel, by decide +kernel, by decide +kernel⟩, aw_at 926 (by decide +kernel) (by decide +kernel), aw_at 927 (by decide +kernel) (by decide +kernel)⟩
theorem cq_X9_mostly : cqV yX9_mostly cX9_mostly 9 (some .int) 2 := ⟨⟨aw_at 1012 (by decide +kernel) (by decide +kernel), aw_at 87 (by decide +kernel) (by decide +kernel), by decide +kernel, by decide +kernel, by decide +kernel⟩, aw_at 1010 (by decide +kernel) (by decide +kernel), aw_at 1011 (by decide +kernel) (by decide +kernel)⟩
theorem cq_X9_quiet : cqV yX9_quiet cX9_quiet 5 (some .int) 1 := ⟨⟨aw_at 951 (by decide +kernel) (by decide +kernel), aw_at 87 (by decide +kernel) (by decide +kernel), by decide +kernel, by decide +kernel, by decide +kernel⟩, aw_at 949 (by decide +kernel) (by decide +kernel), aw_at 950 (by decide +kernel) (by decide +kernel)⟩
theorem cq_X9_raised : cqV yX9_raised cX9_raised 3 (some .int) 2 := ⟨⟨aw_at 1021 (by decide +kernel) (by decide +kernel), aw_at 87 (by decide +kernel) (by decide +kernel), by decide +kernel, by decide +kernel, by decide +kernel⟩, aw_at 1019 (by decide +kernel) (by decide +kernel), aw_at 1020 (by decide +kernel) (by decide +kernel)⟩
theorem cq_X9_right : cqV yX9_right cX9_right 8 (some .long) 3 := ⟨⟨aw_at 1008 (by decide +kernel) (by decide +kernel), aw_at 87 (by decide +kernel) (by decide +kernel), by decide +kernel, by decide +kernel, by decide +kernel⟩, aw_at 1006 (by decide +kernel) (by decide +kernel), aw_at 1007 (by decide +kernel) (by decide +kernel)⟩
theorem cq_X9_room : cqV yX9_room cX9_room 2 (some .int) 0 := ⟨⟨aw_at 915 (by decide +kernel) (by decide +kernel), aw_at 87 (by decide +kernel) (by decide +kernel), by decide +kernel, by decide +kernel, by decide +kernel⟩, aw_at 913 (by decide +kernel) (by decide +kernel), aw_at 914 (by decide +kernel) (by decide +kernel)⟩
theorem cq_X9_seed : cqV yX9_seed cX9_seed 5 (some .long) 1 := ⟨⟨aw_at 1037 (by decide +kernel) (by decide +kernel), aw_at 87 (by decide +kernel) (by decide +kernel), by decide +kernel, by decide +kernel, by decide +kernel⟩, aw_at 1035 (by decide +kernel) (by decide +kernel), aw_at 1036 (by decide +kernel) (by decide +kernel)⟩
theorem cq_X9_silent : cqV yX9_silent cX9_silent 3 (some .int) 2 := ⟨⟨aw_at 1033 (by decide +kernel) (by decide +kernel), aw_at 87 (by decide +kernel) (by decide +kernel), by decide +kernel, by decide +kernel, by decide +kernel⟩, aw_at 1031 (by decide +kernel) (by decide +kernel), aw_at 1032 (by decide +kernel) (by decide +kernel)⟩
theorem cq_X9_span : cqV yX9_span cX9_span 8 (some .int) 4 := ⟨⟨aw_at 1099 (by decide +kernel) (by decide +kernel), aw_at 87 (by decide +kernel) (by decide +kernel), by decide +kernel, by decide +kernel, by decide +kernel⟩, aw_at 1097 (by decide +kernel) (by decide +kernel), aw_at 1098 (by decide +kernel) (by decide +kernel)⟩
theorem cq_X9_taken : cqV yX9_taken cX9_taken 5 (some .long) 4 := ⟨⟨aw_at 986 (by decide +kernel) (by decide +kernel), aw_at 87 (by decide +kernel) (by decide +kernel), by decide +kernel, by decide +kernel, by decide +kernel⟩, aw_at 984 (by decide +kernel) (by decide +kernel), aw_at 985 (by decide +kernel) (by decide +kernel)⟩
theorem cq_X9_tape : cqV yX9_tape cX9_tape 3 (some .int) 2 := ⟨⟨aw_at 1062 (by decide +kernel) (by decide +kernel), aw_at 87 (by decide +kernel) (by decide +kernel), by decide +kernel, by decide +kernel, by decide +kernel⟩, aw_at 1060 (by decide +kernel) (by decide +kernel), aw_at 1061 (by decide +kernel) (by decide +kernel)⟩
theorem cq_X9_trial : cqV yX9_trial cX9_trial 3 (some .int) 2 := ⟨⟨aw_at 1104 (by decide +kernel) (by decide +kernel), aw_at 87 (by decide +kernel) (by decide +kernel), by decide +kernel, by decide +kernel, by decide +kernel⟩, aw_at 1102 (by decide +kernel) (by decide +kernel), aw_at 1103 (by decide +kernel) (by decide +kernel)⟩
theorem cq_X9_untape : cqV yX9_untape cX9_untape 2 (some .int) 0 := ⟨⟨aw_at 1068 (by decide +kernel) (by decide +kernel), aw_at 87 (by decide +kernel) (by decide +kernel), by decide +kernel, by decide +kernel, by decide +kernel⟩, aw_at 1066 (by decide +kernel) (by decide +kernel), aw_at 1067 (by decide +kernel) (by decide +kernel)⟩
theorem cq_X9_until : cqV yX9_until cX9_until 6 (some .long) 2 := ⟨⟨aw_at 1120 (by decide +kernel) (by decide +kernel), aw_at 87 (by decide +kernel) (by decide +kernel), by decide +kernel, by decide +kernel, by decide +kernel⟩, aw_at 1118 (by decide +kernel) (by decide +kernel), aw_at 1119 (by decide +kernel) (by decide +kernel)⟩
theorem cq_X9_untrial : cqV yX9_untrial cX9_untrial 2 (some .int) 0 := ⟨⟨aw_at 1108 (by decide +kernel) (by decide +kernel), aw_at 87 (by decide +kernel) (by decide +kernel), by decide +kernel, by decide +kernel, by decide +kernel⟩, aw_at 1106 (by decide +kernel) (by decide +kernel), aw_at 1107 (by decide +kernel) (by decide +kernel)⟩
theorem cq_X9_up : cqV yX9_up cX9_up 3 (some .int) 2 := ⟨⟨aw_at 932 (by decide +kernel) (by decide +kernel), aw_at 87 (by decide +kernel) (by decide +kernel), by decide +kernel, by decide +kernel, by decide +kernel⟩, aw_at 930 (by decide +kernel) (by decide +kernel), aw_at 931 (by decide +kernel) (by decide +kernel)⟩
theorem cq_X9_wipe : cqV yX9_wipe cX9_wipe 2 (some .int) 0 := ⟨⟨aw_at 894 (by decide +kernel) (by decide +kernel), aw_at 87 (by decide +kernel) (by decide +kernel), by decide +kernel, by decide +kernel, by decide +kernel⟩, aw_at 892 (by decide +kernel) (by decide +kernel), aw_at 893 (by decide +kernel) (by decide +kernel)⟩
theorem cq_X9_write : cqV yX9_write cX9_write 5 (some .int) 2 := ⟨⟨aw_at 885 (by decide +kernel) (by decide +kernel), aw_at 87 (by decide +kernel) (by decide +kernel), by decide +kernel, by decide +kernel, by decide +kernel⟩, aw_at 883 (by decide +kernel) (by decide +kernel), aw_at 884 (by decide +kernel) (by decide +kernel)⟩
theorem kl_L_13 : Cond.constantLong RL 13 (4294967295 : Int64) ∈ aw := aw_at 1133 (by decide +kernel) (by decide +kernel)
set_option maxHeartbeats 4000000 in
set_option maxRecDepth 100000 in
theorem case_0 {p : Program} {l : Launch} {e : Env} {s : State} {m : MethodId} {below : List Frame} {meth : Method} {c : Code} {D : va_G} {cI cJ cZ : ClassId} {a : Nat → Nat} {b L : Nat} {xs : Nat → Int32} (C0 : lw_At p s m meth c b L xs) (X : Cx yL_law code 4 ret D cI cJ cZ p s m #[Value.ref b] meth c) (i : Nat) (hi : i + 5 < L) (hL : L ≤ 3072) (tx_length : Int32) (tx_bytes : Nat → Int32) (ro_pupils : Int32) (ro_mood : Int32) (ro_letters : Nat → Int32) (ro_rows : Nat → Int32) (ro_columns : Nat → Int32) (ro_tenths : Nat → Int32) (ro_needs : Nat → Int32) (ro_toldDares : Nat → Int32) (le_seed : Int64) (le_questions : Int32) (le_rightOnes : Int32) (le_wrongOnes : Int32) (le_isKept : Int32) (le_dares : Nat → Int32) (le_times : Nat → Int32) (ha_cells : Nat → Int64) (ch_pupils : Int32) (ch_rule : Int32) (ch_ranks : Nat → Int32) (ch_eligible : Nat → Int32) (ch_eligibleAndRight : Nat → Int32) (ch_cells : Nat → Int64) (s1_seed : Int64) (s1_questions : Int32) (s1_rightOnes : Int32) (s1_wrongOnes : Int32) (s1_isKept : Int32) (s1_dares : Nat → Int32) (s1_times : Nat → Int32) (s2_seed : Int64) (s2_questions : Int32) (s2_rightOnes : Int32) (s2_wrongOnes : Int32) (s2_isKept : Int32) (s2_dares : Nat → Int32) (s2_times : Nat → Int32) (ta_size : Int32) (ta_hands : Nat → Int32) (ta_ones : Nat → Int32) (ta_cells : Nat → Int64) (tr_waited : Int32) (tr_size : Int32) (tr_hands : Nat → Int32) (m_readMany : Int32) (m_pupils : Int32) (m_mood : Int32) (m_length : Int32) (m_at : Int32) (m_faultAt : Int32) (m_drawn : Int64) (m_questions : Int32) (m_rights : Int32) (m_wrongs : Int32) (m_tapes : Int32) (m_trials : Int32) (m_read : Nat → Int32) (m_pupil : Nat → Int32) (m_dares : Nat → Int32) (m_times : Nat → Int32) (m_text : Nat → Int32) (m_joint : Nat → Int64) (m_others : Nat → Int64) (m_tapeHands : Nat → Int32) (m_tapeTaken : Nat → Int32) (m_trialHands : Nat → Int32) (m_trialWaited : Nat → Int32) (m_isKept : Nat → Int32) (m_keptDares : Nat → Int32) (m_keptTimes : Nat → Int32) (m_keptDrawn : Nat → Int64) (m_keptLesson : Nat → Int32) (hR : Rel i tx_length tx_bytes ro_pupils ro_mood ro_letters ro_rows ro_columns ro_tenths ro_needs ro_toldDares le_seed le_questions le_rightOnes le_wrongOnes le_dares le_times s1_seed s1_questions s1_rightOnes s1_wrongOnes s1_isKept s1_dares s1_times s2_seed s2_questions s2_rightOnes s2_wrongOnes s2_isKept s2_dares s2_times ta_size ta_hands ta_ones tr_waited tr_size tr_hands m_pupils m_mood m_length m_drawn m_questions m_rights m_wrongs m_tapes m_trials m_pupil m_dares m_times m_text m_tapeHands m_tapeTaken m_trialHands m_trialWaited m_isKept m_keptDares m_keptTimes m_keptDrawn m_keptLesson) (ws0 : va_W) (H : Heap) (locs : List Loc) (hP : va_P D vwCl ws0 H) (hD : va_D (fun q : Nat => s.heap.size ≤ q) ws0) (hS : va_S (fun q : Nat => s.heap.size ≤ q) s.heap H locs) (hw : wAll a cI cJ cZ ws0 tx_length tx_bytes ro_pupils ro_mood ro_letters ro_rows ro_columns ro_tenths ro_needs ro_toldDares le_seed le_questions le_rightOnes le_wrongOnes le_isKept le_dares le_times ha_cells ch_pupils ch_rule ch_ranks ch_eligible ch_eligibleAndRight ch_cells s1_seed s1_questions s1_rightOnes s1_wrongOnes s1_isKept s1_dares s1_times s2_seed s2_questions s2_rightOnes s2_wrongOnes s2_isKept s2_dares s2_times ta_size ta_hands ta_ones ta_cells tr_waited tr_size tr_hands m_readMany m_pupils m_mood m_length m_at m_faultAt m_drawn m_questions m_rights m_wrongs m_tapes m_trials m_read m_pupil m_dares m_times m_text m_joint m_others m_tapeHands m_tapeTaken m_trialHands m_trialWaited m_isKept m_keptDares m_keptTimes m_keptDrawn m_keptLesson) (ls : Array Slot) (hl : lv_has ls 4 [(0, .ref b), (1, .ref (a 0)), (2, .ref (a 35)), (3, .int (nI i))]) (KK : ∀ (tx_length : Int32) (tx_bytes : Nat → Int32) (ro_pupils : Int32) (ro_mood : Int32) (ro_letters : Nat → Int32) (ro_rows : Nat → Int32) (ro_columns : Nat → Int32) (ro_tenths : Nat → Int32) (ro_needs : Nat → Int32) (ro_toldDares : Nat → Int32) (le_seed : Int64) (le_questions : Int32) (le_rightOnes : Int32) (le_wrongOnes : Int32) (le_isKept : Int32) (le_dares : Nat → Int32) (le_times : Nat → Int32) (ha_cells : Nat → Int64) (ch_pupils : Int32) (ch_rule : Int32) (ch_ranks : Nat → Int32) (ch_eligible : Nat → Int32) (ch_eligibleAndRight : Nat → Int32) (ch_cells : Nat → Int64) (s1_seed : Int64) (s1_questions : Int32) (s1_rightOnes : Int32) (s1_wrongOnes : Int32) (s1_isKept : Int32) (s1_dares : Nat → Int32) (s1_times : Nat → Int32) (s2_seed : Int64) (s2_questions : Int32) (s2_rightOnes : Int32) (s2_wrongOnes : Int32) (s2_isKept : Int32) (s2_dares : Nat → Int32) (s2_times : Nat → Int32) (ta_size : Int32) (ta_hands : Nat → Int32) (ta_ones : Nat → Int32) (ta_cells : Nat → Int64) (tr_waited : Int32) (tr_size : Int32) (tr_hands : Nat → Int32) (m_readMany : Int32) (m_pupils : Int32) (m_mood : Int32) (m_length : Int32) (m_at : Int32) (m_faultAt : Int32) (m_drawn : Int64) (m_questions : Int32) (m_rights : Int32) (m_wrongs : Int32) (m_tapes : Int32) (m_trials : Int32) (m_read : Nat → Int32) (m_pupil : Nat → Int32) (m_dares : Nat → Int32) (m_times : Nat → Int32) (m_text : Nat → Int32) (m_joint : Nat → Int64) (m_others : Nat → Int64) (m_tapeHands : Nat → Int32) (m_tapeTaken : Nat → Int32) (m_trialHands : Nat → Int32) (m_trialWaited : Nat → Int32) (m_isKept : Nat → Int32) (m_keptDares : Nat → Int32) (m_keptTimes : Nat → Int32) (m_keptDrawn : Nat → Int64) (m_keptLesson : Nat → Int32), Rel (i + 1) tx_length tx_bytes ro_pupils ro_mood ro_letters ro_rows ro_columns ro_tenths ro_needs ro_toldDares le_seed le_questions le_rightOnes le_wrongOnes le_dares le_times s1_seed s1_questions s1_rightOnes s1_wrongOnes s1_isKept s1_dares s1_times s2_seed s2_questions s2_rightOnes s2_wrongOnes s2_isKept s2_dares s2_times ta_size ta_hands ta_ones tr_waited tr_size tr_hands m_pupils m_mood m_length m_drawn m_questions m_rights m_wrongs m_tapes m_trials m_pupil m_dares m_times m_text m_tapeHands m_tapeTaken m_trialHands m_trialWaited m_isKept m_keptDares m_keptTimes m_keptDrawn m_keptLesson → ∀ (w : va_W) (H : Heap) (locs : List Loc), va_P D vwCl w H → va_D (fun q : Nat => s.heap.size ≤ q) w → va_S (fun q : Nat => s.heap.size ≤ q) s.heap H locs → wAll a cI cJ cZ w tx_length tx_bytes ro_pupils ro_mood ro_letters ro_rows ro_columns ro_tenths ro_needs ro_toldDares le_seed le_questions le_rightOnes le_wrongOnes le_isKept le_dares le_times ha_cells ch_pupils ch_rule ch_ranks ch_eligible ch_eligibleAndRight ch_cells s1_seed s1_questions s1_rightOnes s1_wrongOnes s1_isKept s1_dares s1_times s2_seed s2_questions s2_rightOnes s2_wrongOnes s2_isKept s2_dares s2_times ta_size ta_hands ta_ones ta_cells tr_waited tr_size tr_hands m_readMany m_pupils m_mood m_length m_at m_faultAt m_drawn m_questions m_rights m_wrongs m_tapes m_trials m_read m_pupil m_dares m_times m_text m_joint m_others m_tapeHands m_tapeTaken m_trialHands m_trialWaited m_isKept m_keptDares m_keptTimes m_keptDrawn m_keptLesson → ∀ ls : Array Slot, lv_has ls 4 [(0, .ref b), (1, .ref (a 0)), (2, .ref (a 35)), (3, .int (nI i))] → W p l e room_1 s m #[Value.ref b] below meth c H locs 52 1402 (lw_Z below #[Value.ref b] s) (F0 m 1535 ls [])) : W p l e room_1 s m #[Value.ref b] below meth c H locs 52 1402 (lw_Z below #[Value.ref b] s) (F0 m 188 ls []) := by
  obtain ⟨-, -, -, -, -, -, hX, hbl, -, -⟩ := C0
  obtain ⟨hx, hb, hr, hml, hown, hts, hlk, hK, hN⟩ := id X
  have hown : s.vm.findClass RL = some m.cls := hown
  have hbA : ¬ (fun q : Nat => s.heap.size ≤ q) b := Nat.not_le.mpr hbl
  obtain ⟨h0, h1, h2, h3, h4, h5, h6, h7, h8, h9, h10, h11, h12, h13, h14, h15, h16, h17, h18, h19, h20, h21, h22, h23, h24, h25, h26, h27, h28, h29, h30, h31, h32, h33, h34, h35, h36, h37, h38, h39, h40, h41, h42, h43, h44, h45, h46, h47, h48, h49, h50, h51⟩ := hw
  have i1 : vp_in (nI i + (1 : Int32)) L := by rw [show (1 : Int32) = nI 1 from rfl, nI_add]; exact vp_in_nI (by omega) (by omega)
  have i2 : vp_in (nI i + (2 : Int32)) L := by rw [show (2 : Int32) = nI 2 from rfl, nI_add]; exact vp_in_nI (by omega) (by omega)
  have i3 : vp_in (nI i + (3 : Int32)) L := by rw [show (3 : Int32) = nI 3 from rfl, nI_add]; exact vp_in_nI (by omega) (by omega)
  have i4 : vp_in (nI i + (4 : Int32)) L := by rw [show (4 : Int32) = nI 4 from rfl, nI_add]; exact vp_in_nI (by omega) (by omega)
  have i5 : vp_in (nI i + (5 : Int32)) L := by rw [show (5 : Int32) = nI 5 from rfl, nI_add]; exact vp_in_nI (by omega) (by omega)
  obtain ⟨u, v, hu, hv, he, hR2⟩ := P_write i (by omega) tx_length tx_bytes ro_pupils ro_mood ro_letters ro_rows ro_columns ro_tenths ro_needs ro_toldDares le_seed le_questions le_rightOnes le_wrongOnes le_isKept le_dares le_times ha_cells ch_pupils ch_rule ch_ranks ch_eligible ch_eligibleAndRight ch_cells s1_seed s1_questions s1_rightOnes s1_wrongOnes s1_isKept s1_dares s1_times s2_seed s2_questions s2_rightOnes s2_wrongOnes s2_isKept s2_dares s2_times ta_size ta_hands ta_ones ta_cells tr_waited tr_size tr_hands m_readMany m_pupils m_mood m_length m_at m_faultAt m_drawn m_questions m_rights m_wrongs m_tapes m_trials m_read m_pupil m_dares m_times m_text m_joint m_others m_tapeHands m_tapeTaken m_trialHands m_trialWaited m_isKept m_keptDares m_keptTimes m_keptDrawn m_keptLesson (xs (nI i + (1 : Int32)).toNatClampNeg) ((((xs (nI i + (2 : Int32)).toNatClampNeg).toInt64) <<< ((32 : Int32).toInt64 &&& 63)) ||| (((xs (nI i + (3 : Int32)).toNatClampNeg).toInt64) &&& (4294967295 : Int64)))  hR
  refine lv_aload_n hx hb dL_law_188 rfl (lv_at hl 1 rfl) ?_
  refine lv_aload_n hx hb dL_law_189 rfl (lv_at hl 0 rfl) ?_
  refine lv_iload_n hx hb dL_law_190 rfl (lv_at hl 3 rfl) ?_
  refine lv_iconst (v := (1 : Int32)) hx hb dL_law_191 (by decide) ?_
  refine lv_iadd hx hb dL_law_192 ?_
  refine va_sld hx hb hX hbl hbA hS i1 dL_law_193 ?_
  refine lv_aload_n hx hb dL_law_194 rfl (lv_at hl 0 rfl) ?_
  refine lv_iload_n hx hb dL_law_195 rfl (lv_at hl 3 rfl) ?_
  refine lv_iconst (v := (2 : Int32)) hx hb dL_law_196 (by decide) ?_
  refine lv_iadd hx hb dL_law_197 ?_
  refine va_sld hx hb hX hbl hbA hS i2 dL_law_198 ?_
  refine lv_i2l hx hb dL_law_199 rfl ?_
  refine lv_bipush (v := (32 : Int32)) hx hb dL_law_200 (by decide) ?_
  refine lv_lshl hx hb dL_law_202 rfl ?_
  refine lv_aload_n hx hb dL_law_203 rfl (lv_at hl 0 rfl) ?_
  refine lv_iload_n hx hb dL_law_204 rfl (lv_at hl 3 rfl) ?_
  refine lv_iconst (v := (3 : Int32)) hx hb dL_law_205 (by decide) ?_
  refine lv_iadd hx hb dL_law_206 ?_
  refine va_sld hx hb hX hbl hbA hS i3 dL_law_207 ?_
  refine lv_i2l hx hb dL_law_208 rfl ?_
  refine lv_ldc2 (v := (4294967295 : Int64)) hx hb hown (hts _ kl_L_13) dL_law_209 ?_
  refine lv_land hx hb dL_law_212 ?_
  refine lv_lor hx hb dL_law_213 ?_
  refine wr_i (runV (As := [.int (xs (nI i + (1 : Int32)).toNatClampNeg), .long ((((xs (nI i + (2 : Int32)).toNatClampNeg).toInt64) <<< ((32 : Int32).toInt64 &&& 63)) ||| (((xs (nI i + (3 : Int32)).toNatClampNeg).toInt64) &&& (4294967295 : Int64)))]) (rest := []) X cq_X8_write lk_L_15 (c_X8_write l D cI cJ cZ a ws0 (fun q : Nat => s.heap.size ≤ q) tx_length tx_bytes (xs (nI i + (1 : Int32)).toNatClampNeg) ((((xs (nI i + (2 : Int32)).toNatClampNeg).toInt64) <<< ((32 : Int32).toInt64 &&& 63)) ||| (((xs (nI i + (3 : Int32)).toNatClampNeg).toInt64) &&& (4294967295 : Int64))) u hu h0 h1 h2 hD) rfl rfl ⟨Nat.le_of_ble_eq_true rfl, Nat.le_of_ble_eq_true rfl⟩ hP h0 rfl rfl hl.1 rfl (Nat.le_of_ble_eq_true rfl) dL_law_214 ⟨Nat.le_of_ble_eq_true rfl, Nat.le_of_ble_eq_true rfl⟩) hS (fun w1 H locs hP hD hk hB hS => ?_)
  obtain ⟨hB0, hB1⟩ := hB
  have h2 : w1[2]? = some (a 2, .inl (cI, 72, .inl u.2.1)) := hB0
  have h1 : w1[1]? = some (a 1, .inr (6, [.ref (a 2), .int u.2.2])) := hB1
  have h0 := (hk 0 (by decide)).trans h0
  have h3 := (hk 3 (by decide)).trans h3
  have h4 := (hk 4 (by decide)).trans h4
  have h5 := (hk 5 (by decide)).trans h5
  have h6 := (hk 6 (by decide)).trans h6
  have h7 := (hk 7 (by decide)).trans h7
  have h8 := (hk 8 (by decide)).trans h8
  have h9 := (hk 9 (by decide)).trans h9
  have h10 := (hk 10 (by decide)).trans h10
  have h11 := (hk 11 (by decide)).trans h11
  have h12 := (hk 12 (by decide)).trans h12
  have h13 := (hk 13 (by decide)).trans h13
  have h14 := (hk 14 (by decide)).trans h14
  have h15 := (hk 15 (by decide)).trans h15
  have h16 := (hk 16 (by decide)).trans h16
  have h17 := (hk 17 (by decide)).trans h17
  have h18 := (hk 18 (by decide)).trans h18
  have h19 := (hk 19 (by decide)).trans h19
  have h20 := (hk 20 (by decide)).trans h20
  have h21 := (hk 21 (by decide)).trans h21
  have h22 := (hk 22 (by decide)).trans h22
  have h23 := (hk 23 (by decide)).trans h23
  have h24 := (hk 24 (by decide)).trans h24
  have h25 := (hk 25 (by decide)).trans h25
  have h26 := (hk 26 (by decide)).trans h26
  have h27 := (hk 27 (by decide)).trans h27
  have h28 := (hk 28 (by decide)).trans h28
  have h29 := (hk 29 (by decide)).trans h29
  have h30 := (hk 30 (by decide)).trans h30
  have h31 := (hk 31 (by decide)).trans h31
  have h32 := (hk 32 (by decide)).trans h32
  have h33 := (hk 33 (by decide)).trans h33
  have h34 := (hk 34 (by decide)).trans h34
  have h35 := (hk 35 (by decide)).trans h35
  have h36 := (hk 36 (by decide)).trans h36
  have h37 := (hk 37 (by decide)).trans h37
  have h38 := (hk 38 (by decide)).trans h38
  have h39 := (hk 39 (by decide)).trans h39
  have h40 := (hk 40 (by decide)).trans h40
  have h41 := (hk 41 (by decide)).trans h41
  have h42 := (hk 42 (by decide)).trans h42
  have h43 := (hk 43 (by decide)).trans h43
  have h44 := (hk 44 (by decide)).trans h44
  have h45 := (hk 45 (by decide)).trans h45
  have h46 := (hk 46 (by decide)).trans h46
  have h47 := (hk 47 (by decide)).trans h47
  have h48 := (hk 48 (by decide)).trans h48
  have h49 := (hk 49 (by decide)).trans h49
  have h50 := (hk 50 (by decide)).trans h50
  have h51 := (hk 51 (by decide)).trans h51
  refine lv_aload_n hx hb dL_law_217 rfl (lv_at hl 2 rfl) ?_
  refine lv_aload_n hx hb dL_law_218 rfl (lv_at hl 0 rfl) ?_
  refine lv_iload_n hx hb dL_law_219 rfl (lv_at hl 3 rfl) ?_
  refine lv_iconst (v := (1 : Int32)) hx hb dL_law_220 (by decide) ?_
  refine lv_iadd hx hb dL_law_221 ?_
  refine va_sld hx hb hX hbl hbA hS i1 dL_law_222 ?_
  refine lv_aload_n hx hb dL_law_223 rfl (lv_at hl 0 rfl) ?_
  refine lv_iload_n hx hb dL_law_224 rfl (lv_at hl 3 rfl) ?_
  refine lv_iconst (v := (2 : Int32)) hx hb dL_law_225 (by decide) ?_
  refine lv_iadd hx hb dL_law_226 ?_
  refine va_sld hx hb hX hbl hbA hS i2 dL_law_227 ?_
  refine lv_i2l hx hb dL_law_228 rfl ?_
  refine lv_bipush (v := (32 : Int32)) hx hb dL_law_229 (by decide) ?_
  refine lv_lshl hx hb dL_law_231 rfl ?_
  refine lv_aload_n hx hb dL_law_232 rfl (lv_at hl 0 rfl) ?_
  refine lv_iload_n hx hb dL_law_233 rfl (lv_at hl 3 rfl) ?_
  refine lv_iconst (v := (3 : Int32)) hx hb dL_law_234 (by decide) ?_
  refine lv_iadd hx hb dL_law_235 ?_
  refine va_sld hx hb hX hbl hbA hS i3 dL_law_236 ?_
  refine lv_i2l hx hb dL_law_237 rfl ?_
  refine lv_ldc2 (v := (4294967295 : Int64)) hx hb hown (hts _ kl_L_13) dL_law_238 ?_
  refine lv_land hx hb dL_law_241 ?_
  refine lv_lor hx hb dL_law_242 ?_
  refine wr_i (runV (As := [.int (xs (nI i + (1 : Int32)).toNatClampNeg), .long ((((xs (nI i + (2 : Int32)).toNatClampNeg).toInt64) <<< ((32 : Int32).toInt64 &&& 63)) ||| (((xs (nI i + (3 : Int32)).toNatClampNeg).toInt64) &&& (4294967295 : Int64)))]) (rest := [.int u.1]) X cq_X9_write lk_L_19 (c_X9_write l D cI cJ cZ a w1 (fun q : Nat => s.heap.size ≤ q) m_readMany m_pupils m_mood m_length m_at m_faultAt m_drawn m_questions m_rights m_wrongs m_tapes m_trials m_text (xs (nI i + (1 : Int32)).toNatClampNeg) ((((xs (nI i + (2 : Int32)).toNatClampNeg).toInt64) <<< ((32 : Int32).toInt64 &&& 63)) ||| (((xs (nI i + (3 : Int32)).toNatClampNeg).toInt64) &&& (4294967295 : Int64))) v hv h35 h40 hD) rfl rfl ⟨Nat.le_of_ble_eq_true rfl, Nat.le_of_ble_eq_true rfl⟩ hP h35 rfl rfl hl.1 rfl (Nat.le_of_ble_eq_true rfl) dL_law_243 ⟨Nat.le_of_ble_eq_true rfl, Nat.le_of_ble_eq_true rfl⟩) hS (fun w2 H locs hP hD hk hB hS => ?_)
  obtain ⟨hB0, hB1⟩ := hB
  have h40 : w2[40]? = some (a 40, .inl (cI, 72, .inl v.2.1)) := hB0
  have h35 : w2[35]? = some (a 35, .inr (9, [.ref (a 36), .int m_readMany, .ref (a 37), .int m_pupils, .ref (a 38), .ref (a 39), .int m_mood, .ref (a 40), .int v.2.2, .int m_at, .int m_faultAt, .ref (a 41), .ref (a 42), .long m_drawn, .int m_questions, .int m_rights, .int m_wrongs, .int m_tapes, .ref (a 43), .ref (a 44), .int m_trials, .ref (a 45), .ref (a 46), .ref (a 47), .ref (a 48), .ref (a 49), .ref (a 50), .ref (a 51)])) := hB1
  have h0 := (hk 0 (by decide)).trans h0
  have h1 := (hk 1 (by decide)).trans h1
  have h2 := (hk 2 (by decide)).trans h2
  have h3 := (hk 3 (by decide)).trans h3
  have h4 := (hk 4 (by decide)).trans h4
  have h5 := (hk 5 (by decide)).trans h5
  have h6 := (hk 6 (by decide)).trans h6
  have h7 := (hk 7 (by decide)).trans h7
  have h8 := (hk 8 (by decide)).trans h8
  have h9 := (hk 9 (by decide)).trans h9
  have h10 := (hk 10 (by decide)).trans h10
  have h11 := (hk 11 (by decide)).trans h11
  have h12 := (hk 12 (by decide)).trans h12
  have h13 := (hk 13 (by decide)).trans h13
  have h14 := (hk 14 (by decide)).trans h14
  have h15 := (hk 15 (by decide)).trans h15
  have h16 := (hk 16 (by decide)).trans h16
  have h17 := (hk 17 (by decide)).trans h17
  have h18 := (hk 18 (by decide)).trans h18
  have h19 := (hk 19 (by decide)).trans h19
  have h20 := (hk 20 (by decide)).trans h20
  have h21 := (hk 21 (by decide)).trans h21
  have h22 := (hk 22 (by decide)).trans h22
  have h23 := (hk 23 (by decide)).trans h23
  have h24 := (hk 24 (by decide)).trans h24
  have h25 := (hk 25 (by decide)).trans h25
  have h26 := (hk 26 (by decide)).trans h26
  have h27 := (hk 27 (by decide)).trans h27
  have h28 := (hk 28 (by decide)).trans h28
  have h29 := (hk 29 (by decide)).trans h29
  have h30 := (hk 30 (by decide)).trans h30
  have h31 := (hk 31 (by decide)).trans h31
  have h32 := (hk 32 (by decide)).trans h32
  have h33 := (hk 33 (by decide)).trans h33
  have h34 := (hk 34 (by decide)).trans h34
  have h36 := (hk 36 (by decide)).trans h36
  have h37 := (hk 37 (by decide)).trans h37
  have h38 := (hk 38 (by decide)).trans h38
  have h39 := (hk 39 (by decide)).trans h39
  have h41 := (hk 41 (by decide)).trans h41
  have h42 := (hk 42 (by decide)).trans h42
  have h43 := (hk 43 (by decide)).trans h43
  have h44 := (hk 44 (by decide)).trans h44
  have h45 := (hk 45 (by decide)).trans h45
  have h46 := (hk 46 (by decide)).trans h46
  have h47 := (hk 47 (by decide)).trans h47
  have h48 := (hk 48 (by decide)).trans h48
  have h49 := (hk 49 (by decide)).trans h49
  have h50 := (hk 50 (by decide)).trans h50
  have h51 := (hk 51 (by decide)).trans h51
  refine lv_icmp_eq (tgt := 1535) hx hb dL_law_246 (by decide) (fun _ => ?_) (fun q => absurd he q)
  exact KK u.2.2 u.2.1 ro_pupils ro_mood ro_letters ro_rows ro_columns ro_tenths ro_needs ro_toldDares le_seed le_questions le_rightOnes le_wrongOnes le_isKept le_dares le_times ha_cells ch_pupils ch_rule ch_ranks ch_eligible ch_eligibleAndRight ch_cells s1_seed s1_questions s1_rightOnes s1_wrongOnes s1_isKept s1_dares s1_times s2_seed s2_questions s2_rightOnes s2_wrongOnes s2_isKept s2_dares s2_times ta_size ta_hands ta_ones ta_cells tr_waited tr_size tr_hands m_readMany m_pupils m_mood v.2.2 m_at m_faultAt m_drawn m_questions m_rights m_wrongs m_tapes m_trials m_read m_pupil m_dares m_times v.2.1 m_joint m_others m_tapeHands m_tapeTaken m_trialHands m_trialWaited m_isKept m_keptDares m_keptTimes m_keptDrawn m_keptLesson hR2 _ _ _ hP hD hS ⟨h0, h1, h2, h3, h4, h5, h6, h7, h8, h9, h10, h11, h12, h13, h14, h15, h16, h17, h18, h19, h20, h21, h22, h23, h24, h25, h26, h27, h28, h29, h30, h31, h32, h33, h34, h35, h36, h37, h38, h39, h40, h41, h42, h43, h44, h45, h46, h47, h48, h49, h50, h51⟩ ls hl
set_option maxHeartbeats 4000000 in
set_option maxRecDepth 100000 in
theorem case_1 {p : Program} {l : Launch} {e : Env} {s : State} {m : MethodId} {below : List Frame} {meth : Method} {c : Code} {D : va_G} {cI cJ cZ : ClassId} {a : Nat → Nat} {b L : Nat} {xs : Nat → Int32} (C0 : lw_At p s m meth c b L xs) (X : Cx yL_law code 4 ret D cI cJ cZ p s m #[Value.ref b] meth c) (i : Nat) (hi : i + 5 < L) (hL : L ≤ 3072) (tx_length : Int32) (tx_bytes : Nat → Int32) (ro_pupils : Int32) (ro_mood : Int32) (ro_letters : Nat → Int32) (ro_rows : Nat → Int32) (ro_columns : Nat → Int32) (ro_tenths : Nat → Int32) (ro_needs : Nat → Int32) (ro_toldDares : Nat → Int32) (le_seed : Int64) (le_questions : Int32) (le_rightOnes : Int32) (le_wrongOnes : Int32) (le_isKept : Int32) (le_dares : Nat → Int32) (le_times : Nat → Int32) (ha_cells : Nat → Int64) (ch_pupils : Int32) (ch_rule : Int32) (ch_ranks : Nat → Int32) (ch_eligible : Nat → Int32) (ch_eligibleAndRight : Nat → Int32) (ch_cells : Nat → Int64) (s1_seed : Int64) (s1_questions : Int32) (s1_rightOnes : Int32) (s1_wrongOnes : Int32) (s1_isKept : Int32) (s1_dares : Nat → Int32) (s1_times : Nat → Int32) (s2_seed : Int64) (s2_questions : Int32) (s2_rightOnes : Int32) (s2_wrongOnes : Int32) (s2_isKept : Int32) (s2_dares : Nat → Int32) (s2_times : Nat → Int32) (ta_size : Int32) (ta_hands : Nat → Int32) (ta_ones : Nat → Int32) (ta_cells : Nat → Int64) (tr_waited : Int32) (tr_size : Int32) (tr_hands : Nat → Int32) (m_readMany : Int32) (m_pupils : Int32) (m_mood : Int32) (m_length : Int32) (m_at : Int32) (m_faultAt : Int32) (m_drawn : Int64) (m_questions : Int32) (m_rights : Int32) (m_wrongs : Int32) (m_tapes : Int32) (m_trials : Int32) (m_read : Nat → Int32) (m_pupil : Nat → Int32) (m_dares : Nat → Int32) (m_times : Nat → Int32) (m_text : Nat → Int32) (m_joint : Nat → Int64) (m_others : Nat → Int64) (m_tapeHands : Nat → Int32) (m_tapeTaken : Nat → Int32) (m_trialHands : Nat → Int32) (m_trialWaited : Nat → Int32) (m_isKept : Nat → Int32) (m_keptDares : Nat → Int32) (m_keptTimes : Nat → Int32) (m_keptDrawn : Nat → Int64) (m_keptLesson : Nat → Int32) (hR : Rel i tx_length tx_bytes ro_pupils ro_mood ro_letters ro_rows ro_columns ro_tenths ro_needs ro_toldDares le_seed le_questions le_rightOnes le_wrongOnes le_dares le_times s1_seed s1_questions s1_rightOnes s1_wrongOnes s1_isKept s1_dares s1_times s2_seed s2_questions s2_rightOnes s2_wrongOnes s2_isKept s2_dares s2_times ta_size ta_hands ta_ones tr_waited tr_size tr_hands m_pupils m_mood m_length m_drawn m_questions m_rights m_wrongs m_tapes m_trials m_pupil m_dares m_times m_text m_tapeHands m_tapeTaken m_trialHands m_trialWaited m_isKept m_keptDares m_keptTimes m_keptDrawn m_keptLesson) (ws0 : va_W) (H : Heap) (locs : List Loc) (hP : va_P D vwCl ws0 H) (hD : va_D (fun q : Nat => s.heap.size ≤ q) ws0) (hS : va_S (fun q : Nat => s.heap.size ≤ q) s.heap H locs) (hw : wAll a cI cJ cZ ws0 tx_length tx_bytes ro_pupils ro_mood ro_letters ro_rows ro_columns ro_tenths ro_needs ro_toldDares le_seed le_questions le_rightOnes le_wrongOnes le_isKept le_dares le_times ha_cells ch_pupils ch_rule ch_ranks ch_eligible ch_eligibleAndRight ch_cells s1_seed s1_questions s1_rightOnes s1_wrongOnes s1_isKept s1_dares s1_times s2_seed s2_questions s2_rightOnes s2_wrongOnes s2_isKept s2_dares s2_times ta_size ta_hands ta_ones ta_cells tr_waited tr_size tr_hands m_readMany m_pupils m_mood m_length m_at m_faultAt m_drawn m_questions m_rights m_wrongs m_tapes m_trials m_read m_pupil m_dares m_times m_text m_joint m_others m_tapeHands m_tapeTaken m_trialHands m_trialWaited m_isKept m_keptDares m_keptTimes m_keptDrawn m_keptLesson) (ls : Array Slot) (hl : lv_has ls 4 [(0, .ref b), (1, .ref (a 0)), (2, .ref (a 35)), (3, .int (nI i))]) (KK : ∀ (tx_length : Int32) (tx_bytes : Nat → Int32) (ro_pupils : Int32) (ro_mood : Int32) (ro_letters : Nat → Int32) (ro_rows : Nat → Int32) (ro_columns : Nat → Int32) (ro_tenths : Nat → Int32) (ro_needs : Nat → Int32) (ro_toldDares : Nat → Int32) (le_seed : Int64) (le_questions : Int32) (le_rightOnes : Int32) (le_wrongOnes : Int32) (le_isKept : Int32) (le_dares : Nat → Int32) (le_times : Nat → Int32) (ha_cells : Nat → Int64) (ch_pupils : Int32) (ch_rule : Int32) (ch_ranks : Nat → Int32) (ch_eligible : Nat → Int32) (ch_eligibleAndRight : Nat → Int32) (ch_cells : Nat → Int64) (s1_seed : Int64) (s1_questions : Int32) (s1_rightOnes : Int32) (s1_wrongOnes : Int32) (s1_isKept : Int32) (s1_dares : Nat → Int32) (s1_times : Nat → Int32) (s2_seed : Int64) (s2_questions : Int32) (s2_rightOnes : Int32) (s2_wrongOnes : Int32) (s2_isKept : Int32) (s2_dares : Nat → Int32) (s2_times : Nat → Int32) (ta_size : Int32) (ta_hands : Nat → Int32) (ta_ones : Nat → Int32) (ta_cells : Nat → Int64) (tr_waited : Int32) (tr_size : Int32) (tr_hands : Nat → Int32) (m_readMany : Int32) (m_pupils : Int32) (m_mood : Int32) (m_length : Int32) (m_at : Int32) (m_faultAt : Int32) (m_drawn : Int64) (m_questions : Int32) (m_rights : Int32) (m_wrongs : Int32) (m_tapes : Int32) (m_trials : Int32) (m_read : Nat → Int32) (m_pupil : Nat → Int32) (m_dares : Nat → Int32) (m_times : Nat → Int32) (m_text : Nat → Int32) (m_joint : Nat → Int64) (m_others : Nat → Int64) (m_tapeHands : Nat → Int32) (m_tapeTaken : Nat → Int32) (m_trialHands : Nat → Int32) (m_trialWaited : Nat → Int32) (m_isKept : Nat → Int32) (m_keptDares : Nat → Int32) (m_keptTimes : Nat → Int32) (m_keptDrawn : Nat → Int64) (m_keptLesson : Nat → Int32), Rel (i + 1) tx_length tx_bytes ro_pupils ro_mood ro_letters ro_rows ro_columns ro_tenths ro_needs ro_toldDares le_seed le_questions le_rightOnes le_wrongOnes le_dares le_times s1_seed s1_questions s1_rightOnes s1_wrongOnes s1_isKept s1_dares s1_times s2_seed s2_questions s2_rightOnes s2_wrongOnes s2_isKept s2_dares s2_times ta_size ta_hands ta_ones tr_waited tr_size tr_hands m_pupils m_mood m_length m_drawn m_questions m_rights m_wrongs m_tapes m_trials m_pupil m_dares m_times m_text m_tapeHands m_tapeTaken m_trialHands m_trialWaited m_isKept m_keptDares m_keptTimes m_keptDrawn m_keptLesson → ∀ (w : va_W) (H : Heap) (locs : List Loc), va_P D vwCl w H → va_D (fun q : Nat => s.heap.size ≤ q) w → va_S (fun q : Nat => s.heap.size ≤ q) s.heap H locs → wAll a cI cJ cZ w tx_length tx_bytes ro_pupils ro_mood ro_letters ro_rows ro_columns ro_tenths ro_needs ro_toldDares le_seed le_questions le_rightOnes le_wrongOnes le_isKept le_dares le_times ha_cells ch_pupils ch_rule ch_ranks ch_eligible ch_eligibleAndRight ch_cells s1_seed s1_questions s1_rightOnes s1_wrongOnes s1_isKept s1_dares s1_times s2_seed s2_questions s2_rightOnes s2_wrongOnes s2_isKept s2_dares s2_times ta_size ta_hands ta_ones ta_cells tr_waited tr_size tr_hands m_readMany m_pupils m_mood m_length m_at m_faultAt m_drawn m_questions m_rights m_wrongs m_tapes m_trials m_read m_pupil m_dares m_times m_text m_joint m_others m_tapeHands m_tapeTaken m_trialHands m_trialWaited m_isKept m_keptDares m_keptTimes m_keptDrawn m_keptLesson → ∀ ls : Array Slot, lv_has ls 4 [(0, .ref b), (1, .ref (a 0)), (2, .ref (a 35)), (3, .int (nI i))] → W p l e room_1 s m #[Value.ref b] below meth c H locs 52 1402 (lw_Z below #[Value.ref b] s) (F0 m 1535 ls [])) : W p l e room_1 s m #[Value.ref b] below meth c H locs 52 1402 (lw_Z below #[Value.ref b] s) (F0 m 251 ls []) := by
  obtain ⟨-, -, -, -, -, -, hX, hbl, -, -⟩ := C0
  obtain ⟨hx, hb, hr, hml, hown, hts, hlk, hK, hN⟩ := id X
  have hown : s.vm.findClass RL = some m.cls := hown
  have hbA : ¬ (fun q : Nat => s.heap.size ≤ q) b := Nat.not_le.mpr hbl
  obtain ⟨h0, h1, h2, h3, h4, h5, h6, h7, h8, h9, h10, h11, h12, h13, h14, h15, h16, h17, h18, h19, h20, h21, h22, h23, h24, h25, h26, h27, h28, h29, h30, h31, h32, h33, h34, h35, h36, h37, h38, h39, h40, h41, h42, h43, h44, h45, h46, h47, h48, h49, h50, h51⟩ := hw
  have i1 : vp_in (nI i + (1 : Int32)) L := by rw [show (1 : Int32) = nI 1 from rfl, nI_add]; exact vp_in_nI (by omega) (by omega)
  have i2 : vp_in (nI i + (2 : Int32)) L := by rw [show (2 : Int32) = nI 2 from rfl, nI_add]; exact vp_in_nI (by omega) (by omega)
  have i3 : vp_in (nI i + (3 : Int32)) L := by rw [show (3 : Int32) = nI 3 from rfl, nI_add]; exact vp_in_nI (by omega) (by omega)
  have i4 : vp_in (nI i + (4 : Int32)) L := by rw [show (4 : Int32) = nI 4 from rfl, nI_add]; exact vp_in_nI (by omega) (by omega)
  have i5 : vp_in (nI i + (5 : Int32)) L := by rw [show (5 : Int32) = nI 5 from rfl, nI_add]; exact vp_in_nI (by omega) (by omega)
  obtain ⟨u, v, hu, hv, he, hR2⟩ := P_wipe i (by omega) tx_length tx_bytes ro_pupils ro_mood ro_letters ro_rows ro_columns ro_tenths ro_needs ro_toldDares le_seed le_questions le_rightOnes le_wrongOnes le_isKept le_dares le_times ha_cells ch_pupils ch_rule ch_ranks ch_eligible ch_eligibleAndRight ch_cells s1_seed s1_questions s1_rightOnes s1_wrongOnes s1_isKept s1_dares s1_times s2_seed s2_questions s2_rightOnes s2_wrongOnes s2_isKept s2_dares s2_times ta_size ta_hands ta_ones ta_cells tr_waited tr_size tr_hands m_readMany m_pupils m_mood m_length m_at m_faultAt m_drawn m_questions m_rights m_wrongs m_tapes m_trials m_read m_pupil m_dares m_times m_text m_joint m_others m_tapeHands m_tapeTaken m_trialHands m_trialWaited m_isKept m_keptDares m_keptTimes m_keptDrawn m_keptLesson   hR
  refine lv_aload_n hx hb dL_law_251 rfl (lv_at hl 1 rfl) ?_
  refine wr_i (runV (As := []) (rest := []) X cq_X8_wipe lk_L_20 (c_X8_wipe l D cI cJ cZ a ws0 (fun q : Nat => s.heap.size ≤ q) tx_length u hu h0 h1 hD) rfl rfl ⟨Nat.le_of_ble_eq_true rfl, Nat.le_of_ble_eq_true rfl⟩ hP h0 rfl rfl hl.1 rfl (Nat.le_of_ble_eq_true rfl) dL_law_252 ⟨Nat.le_of_ble_eq_true rfl, Nat.le_of_ble_eq_true rfl⟩) hS (fun w1 H locs hP hD hk hB hS => ?_)
  have h1 : w1[1]? = some (a 1, .inr (6, [.ref (a 2), .int u.2])) := hB
  have h0 := (hk 0 (by decide)).trans h0
  have h2 := (hk 2 (by decide)).trans h2
  have h3 := (hk 3 (by decide)).trans h3
  have h4 := (hk 4 (by decide)).trans h4
  have h5 := (hk 5 (by decide)).trans h5
  have h6 := (hk 6 (by decide)).trans h6
  have h7 := (hk 7 (by decide)).trans h7
  have h8 := (hk 8 (by decide)).trans h8
  have h9 := (hk 9 (by decide)).trans h9
  have h10 := (hk 10 (by decide)).trans h10
  have h11 := (hk 11 (by decide)).trans h11
  have h12 := (hk 12 (by decide)).trans h12
  have h13 := (hk 13 (by decide)).trans h13
  have h14 := (hk 14 (by decide)).trans h14
  have h15 := (hk 15 (by decide)).trans h15
  have h16 := (hk 16 (by decide)).trans h16
  have h17 := (hk 17 (by decide)).trans h17
  have h18 := (hk 18 (by decide)).trans h18
  have h19 := (hk 19 (by decide)).trans h19
  have h20 := (hk 20 (by decide)).trans h20
  have h21 := (hk 21 (by decide)).trans h21
  have h22 := (hk 22 (by decide)).trans h22
  have h23 := (hk 23 (by decide)).trans h23
  have h24 := (hk 24 (by decide)).trans h24
  have h25 := (hk 25 (by decide)).trans h25
  have h26 := (hk 26 (by decide)).trans h26
  have h27 := (hk 27 (by decide)).trans h27
  have h28 := (hk 28 (by decide)).trans h28
  have h29 := (hk 29 (by decide)).trans h29
  have h30 := (hk 30 (by decide)).trans h30
  have h31 := (hk 31 (by decide)).trans h31
  have h32 := (hk 32 (by decide)).trans h32
  have h33 := (hk 33 (by decide)).trans h33
  have h34 := (hk 34 (by decide)).trans h34
  have h35 := (hk 35 (by decide)).trans h35
  have h36 := (hk 36 (by decide)).trans h36
  have h37 := (hk 37 (by decide)).trans h37
  have h38 := (hk 38 (by decide)).trans h38
  have h39 := (hk 39 (by decide)).trans h39
  have h40 := (hk 40 (by decide)).trans h40
  have h41 := (hk 41 (by decide)).trans h41
  have h42 := (hk 42 (by decide)).trans h42
  have h43 := (hk 43 (by decide)).trans h43
  have h44 := (hk 44 (by decide)).trans h44
  have h45 := (hk 45 (by decide)).trans h45
  have h46 := (hk 46 (by decide)).trans h46
  have h47 := (hk 47 (by decide)).trans h47
  have h48 := (hk 48 (by decide)).trans h48
  have h49 := (hk 49 (by decide)).trans h49
  have h50 := (hk 50 (by decide)).trans h50
  have h51 := (hk 51 (by decide)).trans h51
  refine lv_aload_n hx hb dL_law_255 rfl (lv_at hl 2 rfl) ?_
  refine wr_i (runV (As := []) (rest := [.int u.1]) X cq_X9_wipe lk_L_24 (c_X9_wipe l D cI cJ cZ a w1 (fun q : Nat => s.heap.size ≤ q) m_readMany m_pupils m_mood m_length m_at m_faultAt m_drawn m_questions m_rights m_wrongs m_tapes m_trials v hv h35 hD) rfl rfl ⟨Nat.le_of_ble_eq_true rfl, Nat.le_of_ble_eq_true rfl⟩ hP h35 rfl rfl hl.1 rfl (Nat.le_of_ble_eq_true rfl) dL_law_256 ⟨Nat.le_of_ble_eq_true rfl, Nat.le_of_ble_eq_true rfl⟩) hS (fun w2 H locs hP hD hk hB hS => ?_)
  have h35 : w2[35]? = some (a 35, .inr (9, [.ref (a 36), .int m_readMany, .ref (a 37), .int m_pupils, .ref (a 38), .ref (a 39), .int m_mood, .ref (a 40), .int v.2, .int m_at, .int m_faultAt, .ref (a 41), .ref (a 42), .long m_drawn, .int m_questions, .int m_rights, .int m_wrongs, .int m_tapes, .ref (a 43), .ref (a 44), .int m_trials, .ref (a 45), .ref (a 46), .ref (a 47), .ref (a 48), .ref (a 49), .ref (a 50), .ref (a 51)])) := hB
  have h0 := (hk 0 (by decide)).trans h0
  have h1 := (hk 1 (by decide)).trans h1
  have h2 := (hk 2 (by decide)).trans h2
  have h3 := (hk 3 (by decide)).trans h3
  have h4 := (hk 4 (by decide)).trans h4
  have h5 := (hk 5 (by decide)).trans h5
  have h6 := (hk 6 (by decide)).trans h6
  have h7 := (hk 7 (by decide)).trans h7
  have h8 := (hk 8 (by decide)).trans h8
  have h9 := (hk 9 (by decide)).trans h9
  have h10 := (hk 10 (by decide)).trans h10
  have h11 := (hk 11 (by decide)).trans h11
  have h12 := (hk 12 (by decide)).trans h12
  have h13 := (hk 13 (by decide)).trans h13
  have h14 := (hk 14 (by decide)).trans h14
  have h15 := (hk 15 (by decide)).trans h15
  have h16 := (hk 16 (by decide)).trans h16
  have h17 := (hk 17 (by decide)).trans h17
  have h18 := (hk 18 (by decide)).trans h18
  have h19 := (hk 19 (by decide)).trans h19
  have h20 := (hk 20 (by decide)).trans h20
  have h21 := (hk 21 (by decide)).trans h21
  have h22 := (hk 22 (by decide)).trans h22
  have h23 := (hk 23 (by decide)).trans h23
  have h24 := (hk 24 (by decide)).trans h24
  have h25 := (hk 25 (by decide)).trans h25
  have h26 := (hk 26 (by decide)).trans h26
  have h27 := (hk 27 (by decide)).trans h27
  have h28 := (hk 28 (by decide)).trans h28
  have h29 := (hk 29 (by decide)).trans h29
  have h30 := (hk 30 (by decide)).trans h30
  have h31 := (hk 31 (by decide)).trans h31
  have h32 := (hk 32 (by decide)).trans h32
  have h33 := (hk 33 (by decide)).trans h33
  have h34 := (hk 34 (by decide)).trans h34
  have h36 := (hk 36 (by decide)).trans h36
  have h37 := (hk 37 (by decide)).trans h37
  have h38 := (hk 38 (by decide)).trans h38
  have h39 := (hk 39 (by decide)).trans h39
  have h40 := (hk 40 (by decide)).trans h40
  have h41 := (hk 41 (by decide)).trans h41
  have h42 := (hk 42 (by decide)).trans h42
  have h43 := (hk 43 (by decide)).trans h43
  have h44 := (hk 44 (by decide)).trans h44
  have h45 := (hk 45 (by decide)).trans h45
  have h46 := (hk 46 (by decide)).trans h46
  have h47 := (hk 47 (by decide)).trans h47
  have h48 := (hk 48 (by decide)).trans h48
  have h49 := (hk 49 (by decide)).trans h49
  have h50 := (hk 50 (by decide)).trans h50
  have h51 := (hk 51 (by decide)).trans h51
  refine lv_icmp_eq (tgt := 1535) hx hb dL_law_259 (by decide) (fun _ => ?_) (fun q => absurd he q)
  exact KK u.2 tx_bytes ro_pupils ro_mood ro_letters ro_rows ro_columns ro_tenths ro_needs ro_toldDares le_seed le_questions le_rightOnes le_wrongOnes le_isKept le_dares le_times ha_cells ch_pupils ch_rule ch_ranks ch_eligible ch_eligibleAndRight ch_cells s1_seed s1_questions s1_rightOnes s1_wrongOnes s1_isKept s1_dares s1_times s2_seed s2_questions s2_rightOnes s2_wrongOnes s2_isKept s2_dares s2_times ta_size ta_hands ta_ones ta_cells tr_waited tr_size tr_hands m_readMany m_pupils m_mood v.2 m_at m_faultAt m_drawn m_questions m_rights m_wrongs m_tapes m_trials m_read m_pupil m_dares m_times m_text m_joint m_others m_tapeHands m_tapeTaken m_trialHands m_trialWaited m_isKept m_keptDares m_keptTimes m_keptDrawn m_keptLesson hR2 _ _ _ hP hD hS ⟨h0, h1, h2, h3, h4, h5, h6, h7, h8, h9, h10, h11, h12, h13, h14, h15, h16, h17, h18, h19, h20, h21, h22, h23, h24, h25, h26, h27, h28, h29, h30, h31, h32, h33, h34, h35, h36, h37, h38, h39, h40, h41, h42, h43, h44, h45, h46, h47, h48, h49, h50, h51⟩ ls hl
set_option maxHeartbeats 4000000 in
set_option maxRecDepth 100000 in
theorem case_2 {p : Program} {l : Launch} {e : Env} {s : State} {m : MethodId} {below : List Frame} {meth : Method} {c : Code} {D : va_G} {cI cJ cZ : ClassId} {a : Nat → Nat} {b L : Nat} {xs : Nat → Int32} (C0 : lw_At p s m meth c b L xs) (X : Cx yL_law code 4 ret D cI cJ cZ p s m #[Value.ref b] meth c) (i : Nat) (hi : i + 5 < L) (hL : L ≤ 3072) (tx_length : Int32) (tx_bytes : Nat → Int32) (ro_pupils : Int32) (ro_mood : Int32) (ro_letters : Nat → Int32) (ro_rows : Nat → Int32) (ro_columns : Nat → Int32) (ro_tenths : Nat → Int32) (ro_needs : Nat → Int32) (ro_toldDares : Nat → Int32) (le_seed : Int64) (le_questions : Int32) (le_rightOnes : Int32) (le_wrongOnes : Int32) (le_isKept : Int32) (le_dares : Nat → Int32) (le_times : Nat → Int32) (ha_cells : Nat → Int64) (ch_pupils : Int32) (ch_rule : Int32) (ch_ranks : Nat → Int32) (ch_eligible : Nat → Int32) (ch_eligibleAndRight : Nat → Int32) (ch_cells : Nat → Int64) (s1_seed : Int64) (s1_questions : Int32) (s1_rightOnes : Int32) (s1_wrongOnes : Int32) (s1_isKept : Int32) (s1_dares : Nat → Int32) (s1_times : Nat → Int32) (s2_seed : Int64) (s2_questions : Int32) (s2_rightOnes : Int32) (s2_wrongOnes : Int32) (s2_isKept : Int32) (s2_dares : Nat → Int32) (s2_times : Nat → Int32) (ta_size : Int32) (ta_hands : Nat → Int32) (ta_ones : Nat → Int32) (ta_cells : Nat → Int64) (tr_waited : Int32) (tr_size : Int32) (tr_hands : Nat → Int32) (m_readMany : Int32) (m_pupils : Int32) (m_mood : Int32) (m_length : Int32) (m_at : Int32) (m_faultAt : Int32) (m_drawn : Int64) (m_questions : Int32) (m_rights : Int32) (m_wrongs : Int32) (m_tapes : Int32) (m_trials : Int32) (m_read : Nat → Int32) (m_pupil : Nat → Int32) (m_dares : Nat → Int32) (m_times : Nat → Int32) (m_text : Nat → Int32) (m_joint : Nat → Int64) (m_others : Nat → Int64) (m_tapeHands : Nat → Int32) (m_tapeTaken : Nat → Int32) (m_trialHands : Nat → Int32) (m_trialWaited : Nat → Int32) (m_isKept : Nat → Int32) (m_keptDares : Nat → Int32) (m_keptTimes : Nat → Int32) (m_keptDrawn : Nat → Int64) (m_keptLesson : Nat → Int32) (hR : Rel i tx_length tx_bytes ro_pupils ro_mood ro_letters ro_rows ro_columns ro_tenths ro_needs ro_toldDares le_seed le_questions le_rightOnes le_wrongOnes le_dares le_times s1_seed s1_questions s1_rightOnes s1_wrongOnes s1_isKept s1_dares s1_times s2_seed s2_questions s2_rightOnes s2_wrongOnes s2_isKept s2_dares s2_times ta_size ta_hands ta_ones tr_waited tr_size tr_hands m_pupils m_mood m_length m_drawn m_questions m_rights m_wrongs m_tapes m_trials m_pupil m_dares m_times m_text m_tapeHands m_tapeTaken m_trialHands m_trialWaited m_isKept m_keptDares m_keptTimes m_keptDrawn m_keptLesson) (ws0 : va_W) (H : Heap) (locs : List Loc) (hP : va_P D vwCl ws0 H) (hD : va_D (fun q : Nat => s.heap.size ≤ q) ws0) (hS : va_S (fun q : Nat => s.heap.size ≤ q) s.heap H locs) (hw : wAll a cI cJ cZ ws0 tx_length tx_bytes ro_pupils ro_mood ro_letters ro_rows ro_columns ro_tenths ro_needs ro_toldDares le_seed le_questions le_rightOnes le_wrongOnes le_isKept le_dares le_times ha_cells ch_pupils ch_rule ch_ranks ch_eligible ch_eligibleAndRight ch_cells s1_seed s1_questions s1_rightOnes s1_wrongOnes s1_isKept s1_dares s1_times s2_seed s2_questions s2_rightOnes s2_wrongOnes s2_isKept s2_dares s2_times ta_size ta_hands ta_ones ta_cells tr_waited tr_size tr_hands m_readMany m_pupils m_mood m_length m_at m_faultAt m_drawn m_questions m_rights m_wrongs m_tapes m_trials m_read m_pupil m_dares m_times m_text m_joint m_others m_tapeHands m_tapeTaken m_trialHands m_trialWaited m_isKept m_keptDares m_keptTimes m_keptDrawn m_keptLesson) (ls : Array Slot) (hl : lv_has ls 4 [(0, .ref b), (1, .ref (a 0)), (2, .ref (a 35)), (3, .int (nI i))]) (KK : ∀ (tx_length : Int32) (tx_bytes : Nat → Int32) (ro_pupils : Int32) (ro_mood : Int32) (ro_letters : Nat → Int32) (ro_rows : Nat → Int32) (ro_columns : Nat → Int32) (ro_tenths : Nat → Int32) (ro_needs : Nat → Int32) (ro_toldDares : Nat → Int32) (le_seed : Int64) (le_questions : Int32) (le_rightOnes : Int32) (le_wrongOnes : Int32) (le_isKept : Int32) (le_dares : Nat → Int32) (le_times : Nat → Int32) (ha_cells : Nat → Int64) (ch_pupils : Int32) (ch_rule : Int32) (ch_ranks : Nat → Int32) (ch_eligible : Nat → Int32) (ch_eligibleAndRight : Nat → Int32) (ch_cells : Nat → Int64) (s1_seed : Int64) (s1_questions : Int32) (s1_rightOnes : Int32) (s1_wrongOnes : Int32) (s1_isKept : Int32) (s1_dares : Nat → Int32) (s1_times : Nat → Int32) (s2_seed : Int64) (s2_questions : Int32) (s2_rightOnes : Int32) (s2_wrongOnes : Int32) (s2_isKept : Int32) (s2_dares : Nat → Int32) (s2_times : Nat → Int32) (ta_size : Int32) (ta_hands : Nat → Int32) (ta_ones : Nat → Int32) (ta_cells : Nat → Int64) (tr_waited : Int32) (tr_size : Int32) (tr_hands : Nat → Int32) (m_readMany : Int32) (m_pupils : Int32) (m_mood : Int32) (m_length : Int32) (m_at : Int32) (m_faultAt : Int32) (m_drawn : Int64) (m_questions : Int32) (m_rights : Int32) (m_wrongs : Int32) (m_tapes : Int32) (m_trials : Int32) (m_read : Nat → Int32) (m_pupil : Nat → Int32) (m_dares : Nat → Int32) (m_times : Nat → Int32) (m_text : Nat → Int32) (m_joint : Nat → Int64) (m_others : Nat → Int64) (m_tapeHands : Nat → Int32) (m_tapeTaken : Nat → Int32) (m_trialHands : Nat → Int32) (m_trialWaited : Nat → Int32) (m_isKept : Nat → Int32) (m_keptDares : Nat → Int32) (m_keptTimes : Nat → Int32) (m_keptDrawn : Nat → Int64) (m_keptLesson : Nat → Int32), Rel (i + 1) tx_length tx_bytes ro_pupils ro_mood ro_letters ro_rows ro_columns ro_tenths ro_needs ro_toldDares le_seed le_questions le_rightOnes le_wrongOnes le_dares le_times s1_seed s1_questions s1_rightOnes s1_wrongOnes s1_isKept s1_dares s1_times s2_seed s2_questions s2_rightOnes s2_wrongOnes s2_isKept s2_dares s2_times ta_size ta_hands ta_ones tr_waited tr_size tr_hands m_pupils m_mood m_length m_drawn m_questions m_rights m_wrongs m_tapes m_trials m_pupil m_dares m_times m_text m_tapeHands m_tapeTaken m_trialHands m_trialWaited m_isKept m_keptDares m_keptTimes m_keptDrawn m_keptLesson → ∀ (w : va_W) (H : Heap) (locs : List Loc), va_P D vwCl w H → va_D (fun q : Nat => s.heap.size ≤ q) w → va_S (fun q : Nat => s.heap.size ≤ q) s.heap H locs → wAll a cI cJ cZ w tx_length tx_bytes ro_pupils ro_mood ro_letters ro_rows ro_columns ro_tenths ro_needs ro_toldDares le_seed le_questions le_rightOnes le_wrongOnes le_isKept le_dares le_times ha_cells ch_pupils ch_rule ch_ranks ch_eligible ch_eligibleAndRight ch_cells s1_seed s1_questions s1_rightOnes s1_wrongOnes s1_isKept s1_dares s1_times s2_seed s2_questions s2_rightOnes s2_wrongOnes s2_isKept s2_dares s2_times ta_size ta_hands ta_ones ta_cells tr_waited tr_size tr_hands m_readMany m_pupils m_mood m_length m_at m_faultAt m_drawn m_questions m_rights m_wrongs m_tapes m_trials m_read m_pupil m_dares m_times m_text m_joint m_others m_tapeHands m_tapeTaken m_trialHands m_trialWaited m_isKept m_keptDares m_keptTimes m_keptDrawn m_keptLesson → ∀ ls : Array Slot, lv_has ls 4 [(0, .ref b), (1, .ref (a 0)), (2, .ref (a 35)), (3, .int (nI i))] → W p l e room_1 s m #[Value.ref b] below meth c H locs 52 1402 (lw_Z below #[Value.ref b] s) (F0 m 1535 ls [])) : W p l e room_1 s m #[Value.ref b] below meth c H locs 52 1402 (lw_Z below #[Value.ref b] s) (F0 m 264 ls []) := by
  obtain ⟨-, -, -, -, -, -, hX, hbl, -, -⟩ := C0
  obtain ⟨hx, hb, hr, hml, hown, hts, hlk, hK, hN⟩ := id X
  have hown : s.vm.findClass RL = some m.cls := hown
  have hbA : ¬ (fun q : Nat => s.heap.size ≤ q) b := Nat.not_le.mpr hbl
  obtain ⟨h0, h1, h2, h3, h4, h5, h6, h7, h8, h9, h10, h11, h12, h13, h14, h15, h16, h17, h18, h19, h20, h21, h22, h23, h24, h25, h26, h27, h28, h29, h30, h31, h32, h33, h34, h35, h36, h37, h38, h39, h40, h41, h42, h43, h44, h45, h46, h47, h48, h49, h50, h51⟩ := hw
  have i1 : vp_in (nI i + (1 : Int32)) L := by rw [show (1 : Int32) = nI 1 from rfl, nI_add]; exact vp_in_nI (by omega) (by omega)
  have i2 : vp_in (nI i + (2 : Int32)) L := by rw [show (2 : Int32) = nI 2 from rfl, nI_add]; exact vp_in_nI (by omega) (by omega)
  have i3 : vp_in (nI i + (3 : Int32)) L := by rw [show (3 : Int32) = nI 3 from rfl, nI_add]; exact vp_in_nI (by omega) (by omega)
  have i4 : vp_in (nI i + (4 : Int32)) L := by rw [show (4 : Int32) = nI 4 from rfl, nI_add]; exact vp_in_nI (by omega) (by omega)
  have i5 : vp_in (nI i + (5 : Int32)) L := by rw [show (5 : Int32) = nI 5 from rfl, nI_add]; exact vp_in_nI (by omega) (by omega)
  obtain ⟨u, v, hu, hv, he, hR2⟩ := P_fault i (by omega) tx_length tx_bytes ro_pupils ro_mood ro_letters ro_rows ro_columns ro_tenths ro_needs ro_toldDares le_seed le_questions le_rightOnes le_wrongOnes le_isKept le_dares le_times ha_cells ch_pupils ch_rule ch_ranks ch_eligible ch_eligibleAndRight ch_cells s1_seed s1_questions s1_rightOnes s1_wrongOnes s1_isKept s1_dares s1_times s2_seed s2_questions s2_rightOnes s2_wrongOnes s2_isKept s2_dares s2_times ta_size ta_hands ta_ones ta_cells tr_waited tr_size tr_hands m_readMany m_pupils m_mood m_length m_at m_faultAt m_drawn m_questions m_rights m_wrongs m_tapes m_trials m_read m_pupil m_dares m_times m_text m_joint m_others m_tapeHands m_tapeTaken m_trialHands m_trialWaited m_isKept m_keptDares m_keptTimes m_keptDrawn m_keptLesson   hR
  refine lv_aload_n hx hb dL_law_264 rfl (lv_at hl 1 rfl) ?_
  refine rd_i (runV (As := []) (rest := []) X cq_X8_fault lk_L_25 (c_X8_fault l D cI cJ cZ a ws0 tx_length tx_bytes u hu h0 h1 h2) rfl rfl ⟨Nat.le_of_ble_eq_true rfl, Nat.le_of_ble_eq_true rfl⟩ hP h0 rfl rfl hl.1 rfl (Nat.le_of_ble_eq_true rfl) dL_law_265 ⟨Nat.le_of_ble_eq_true rfl, Nat.le_of_ble_eq_true rfl⟩) ?_
  refine lv_aload_n hx hb dL_law_268 rfl (lv_at hl 2 rfl) ?_
  refine wr_i (runV (As := []) (rest := [.int u]) X cq_X9_fault lk_L_28 (c_X9_fault l D cI cJ cZ a ws0 (fun q : Nat => s.heap.size ≤ q) m_readMany m_pupils m_mood m_length m_at m_faultAt m_drawn m_questions m_rights m_wrongs m_tapes m_trials m_read m_text v hv h35 h36 h40 hD) rfl rfl ⟨Nat.le_of_ble_eq_true rfl, Nat.le_of_ble_eq_true rfl⟩ hP h35 rfl rfl hl.1 rfl (Nat.le_of_ble_eq_true rfl) dL_law_269 ⟨Nat.le_of_ble_eq_true rfl, Nat.le_of_ble_eq_true rfl⟩) hS (fun w2 H locs hP hD hk hB hS => ?_)
  obtain ⟨hB0, hB1⟩ := hB
  have h35 : w2[35]? = some (a 35, .inr (9, [.ref (a 36), .int v.2.2.2.1, .ref (a 37), .int m_pupils, .ref (a 38), .ref (a 39), .int m_mood, .ref (a 40), .int m_length, .int v.2.1, .int v.2.2.1, .ref (a 41), .ref (a 42), .long m_drawn, .int m_questions, .int m_rights, .int m_wrongs, .int m_tapes, .ref (a 43), .ref (a 44), .int m_trials, .ref (a 45), .ref (a 46), .ref (a 47), .ref (a 48), .ref (a 49), .ref (a 50), .ref (a 51)])) := hB0
  have h36 : w2[36]? = some (a 36, .inl (cI, 72, .inl v.2.2.2.2)) := hB1
  have h0 := (hk 0 (by decide)).trans h0
  have h1 := (hk 1 (by decide)).trans h1
  have h2 := (hk 2 (by decide)).trans h2
  have h3 := (hk 3 (by decide)).trans h3
  have h4 := (hk 4 (by decide)).trans h4
  have h5 := (hk 5 (by decide)).trans h5
  have h6 := (hk 6 (by decide)).trans h6
  have h7 := (hk 7 (by decide)).trans h7
  have h8 := (hk 8 (by decide)).trans h8
  have h9 := (hk 9 (by decide)).trans h9
  have h10 := (hk 10 (by decide)).trans h10
  have h11 := (hk 11 (by decide)).trans h11
  have h12 := (hk 12 (by decide)).trans h12
  have h13 := (hk 13 (by decide)).trans h13
  have h14 := (hk 14 (by decide)).trans h14
  have h15 := (hk 15 (by decide)).trans h15
  have h16 := (hk 16 (by decide)).trans h16
  have h17 := (hk 17 (by decide)).trans h17
  have h18 := (hk 18 (by decide)).trans h18
  have h19 := (hk 19 (by decide)).trans h19
  have h20 := (hk 20 (by decide)).trans h20
  have h21 := (hk 21 (by decide)).trans h21
  have h22 := (hk 22 (by decide)).trans h22
  have h23 := (hk 23 (by decide)).trans h23
  have h24 := (hk 24 (by decide)).trans h24
  have h25 := (hk 25 (by decide)).trans h25
  have h26 := (hk 26 (by decide)).trans h26
  have h27 := (hk 27 (by decide)).trans h27
  have h28 := (hk 28 (by decide)).trans h28
  have h29 := (hk 29 (by decide)).trans h29
  have h30 := (hk 30 (by decide)).trans h30
  have h31 := (hk 31 (by decide)).trans h31
  have h32 := (hk 32 (by decide)).trans h32
  have h33 := (hk 33 (by decide)).trans h33
  have h34 := (hk 34 (by decide)).trans h34
  have h37 := (hk 37 (by decide)).trans h37
  have h38 := (hk 38 (by decide)).trans h38
  have h39 := (hk 39 (by decide)).trans h39
  have h40 := (hk 40 (by decide)).trans h40
  have h41 := (hk 41 (by decide)).trans h41
  have h42 := (hk 42 (by decide)).trans h42
  have h43 := (hk 43 (by decide)).trans h43
  have h44 := (hk 44 (by decide)).trans h44
  have h45 := (hk 45 (by decide)).trans h45
  have h46 := (hk 46 (by decide)).trans h46
  have h47 := (hk 47 (by decide)).trans h47
  have h48 := (hk 48 (by decide)).trans h48
  have h49 := (hk 49 (by decide)).trans h49
  have h50 := (hk 50 (by decide)).trans h50
  have h51 := (hk 51 (by decide)).trans h51
  refine lv_icmp_eq (tgt := 1535) hx hb dL_law_272 (by decide) (fun _ => ?_) (fun q => absurd he q)
  exact KK tx_length tx_bytes ro_pupils ro_mood ro_letters ro_rows ro_columns ro_tenths ro_needs ro_toldDares le_seed le_questions le_rightOnes le_wrongOnes le_isKept le_dares le_times ha_cells ch_pupils ch_rule ch_ranks ch_eligible ch_eligibleAndRight ch_cells s1_seed s1_questions s1_rightOnes s1_wrongOnes s1_isKept s1_dares s1_times s2_seed s2_questions s2_rightOnes s2_wrongOnes s2_isKept s2_dares s2_times ta_size ta_hands ta_ones ta_cells tr_waited tr_size tr_hands v.2.2.2.1 m_pupils m_mood m_length v.2.1 v.2.2.1 m_drawn m_questions m_rights m_wrongs m_tapes m_trials v.2.2.2.2 m_pupil m_dares m_times m_text m_joint m_others m_tapeHands m_tapeTaken m_trialHands m_trialWaited m_isKept m_keptDares m_keptTimes m_keptDrawn m_keptLesson hR2 _ _ _ hP hD hS ⟨h0, h1, h2, h3, h4, h5, h6, h7, h8, h9, h10, h11, h12, h13, h14, h15, h16, h17, h18, h19, h20, h21, h22, h23, h24, h25, h26, h27, h28, h29, h30, h31, h32, h33, h34, h35, h36, h37, h38, h39, h40, h41, h42, h43, h44, h45, h46, h47, h48, h49, h50, h51⟩ ls hl
set_option maxHeartbeats 4000000 in
set_option maxRecDepth 100000 in
theorem case_3 {p : Program} {l : Launch} {e : Env} {s : State} {m : MethodId} {below : List Frame} {meth : Method} {c : Code} {D : va_G} {cI cJ cZ : ClassId} {a : Nat → Nat} {b L : Nat} {xs : Nat → Int32} (C0 : lw_At p s m meth c b L xs) (X : Cx yL_law code 4 ret D cI cJ cZ p s m #[Value.ref b] meth c) (i : Nat) (hi : i + 5 < L) (hL : L ≤ 3072) (tx_length : Int32) (tx_bytes : Nat → Int32) (ro_pupils : Int32) (ro_mood : Int32) (ro_letters : Nat → Int32) (ro_rows : Nat → Int32) (ro_columns : Nat → Int32) (ro_tenths : Nat → Int32) (ro_needs : Nat → Int32) (ro_toldDares : Nat → Int32) (le_seed : Int64) (le_questions : Int32) (le_rightOnes : Int32) (le_wrongOnes : Int32) (le_isKept : Int32) (le_dares : Nat → Int32) (le_times : Nat → Int32) (ha_cells : Nat → Int64) (ch_pupils : Int32) (ch_rule : Int32) (ch_ranks : Nat → Int32) (ch_eligible : Nat → Int32) (ch_eligibleAndRight : Nat → Int32) (ch_cells : Nat → Int64) (s1_seed : Int64) (s1_questions : Int32) (s1_rightOnes : Int32) (s1_wrongOnes : Int32) (s1_isKept : Int32) (s1_dares : Nat → Int32) (s1_times : Nat → Int32) (s2_seed : Int64) (s2_questions : Int32) (s2_rightOnes : Int32) (s2_wrongOnes : Int32) (s2_isKept : Int32) (s2_dares : Nat → Int32) (s2_times : Nat → Int32) (ta_size : Int32) (ta_hands : Nat → Int32) (ta_ones : Nat → Int32) (ta_cells : Nat → Int64) (tr_waited : Int32) (tr_size : Int32) (tr_hands : Nat → Int32) (m_readMany : Int32) (m_pupils : Int32) (m_mood : Int32) (m_length : Int32) (m_at : Int32) (m_faultAt : Int32) (m_drawn : Int64) (m_questions : Int32) (m_rights : Int32) (m_wrongs : Int32) (m_tapes : Int32) (m_trials : Int32) (m_read : Nat → Int32) (m_pupil : Nat → Int32) (m_dares : Nat → Int32) (m_times : Nat → Int32) (m_text : Nat → Int32) (m_joint : Nat → Int64) (m_others : Nat → Int64) (m_tapeHands : Nat → Int32) (m_tapeTaken : Nat → Int32) (m_trialHands : Nat → Int32) (m_trialWaited : Nat → Int32) (m_isKept : Nat → Int32) (m_keptDares : Nat → Int32) (m_keptTimes : Nat → Int32) (m_keptDrawn : Nat → Int64) (m_keptLesson : Nat → Int32) (hR : Rel i tx_length tx_bytes ro_pupils ro_mood ro_letters ro_rows ro_columns ro_tenths ro_needs ro_toldDares le_seed le_questions le_rightOnes le_wrongOnes le_dares le_times s1_seed s1_questions s1_rightOnes s1_wrongOnes s1_isKept s1_dares s1_times s2_seed s2_questions s2_rightOnes s2_wrongOnes s2_isKept s2_dares s2_times ta_size ta_hands ta_ones tr_waited tr_size tr_hands m_pupils m_mood m_length m_drawn m_questions m_rights m_wrongs m_tapes m_trials m_pupil m_dares m_times m_text m_tapeHands m_tapeTaken m_trialHands m_trialWaited m_isKept m_keptDares m_keptTimes m_keptDrawn m_keptLesson) (ws0 : va_W) (H : Heap) (locs : List Loc) (hP : va_P D vwCl ws0 H) (hD : va_D (fun q : Nat => s.heap.size ≤ q) ws0) (hS : va_S (fun q : Nat => s.heap.size ≤ q) s.heap H locs) (hw : wAll a cI cJ cZ ws0 tx_length tx_bytes ro_pupils ro_mood ro_letters ro_rows ro_columns ro_tenths ro_needs ro_toldDares le_seed le_questions le_rightOnes le_wrongOnes le_isKept le_dares le_times ha_cells ch_pupils ch_rule ch_ranks ch_eligible ch_eligibleAndRight ch_cells s1_seed s1_questions s1_rightOnes s1_wrongOnes s1_isKept s1_dares s1_times s2_seed s2_questions s2_rightOnes s2_wrongOnes s2_isKept s2_dares s2_times ta_size ta_hands ta_ones ta_cells tr_waited tr_size tr_hands m_readMany m_pupils m_mood m_length m_at m_faultAt m_drawn m_questions m_rights m_wrongs m_tapes m_trials m_read m_pupil m_dares m_times m_text m_joint m_others m_tapeHands m_tapeTaken m_trialHands m_trialWaited m_isKept m_keptDares m_keptTimes m_keptDrawn m_keptLesson) (ls : Array Slot) (hl : lv_has ls 4 [(0, .ref b), (1, .ref (a 0)), (2, .ref (a 35)), (3, .int (nI i))]) (KK : ∀ (tx_length : Int32) (tx_bytes : Nat → Int32) (ro_pupils : Int32) (ro_mood : Int32) (ro_letters : Nat → Int32) (ro_rows : Nat → Int32) (ro_columns : Nat → Int32) (ro_tenths : Nat → Int32) (ro_needs : Nat → Int32) (ro_toldDares : Nat → Int32) (le_seed : Int64) (le_questions : Int32) (le_rightOnes : Int32) (le_wrongOnes : Int32) (le_isKept : Int32) (le_dares : Nat → Int32) (le_times : Nat → Int32) (ha_cells : Nat → Int64) (ch_pupils : Int32) (ch_rule : Int32) (ch_ranks : Nat → Int32) (ch_eligible : Nat → Int32) (ch_eligibleAndRight : Nat → Int32) (ch_cells : Nat → Int64) (s1_seed : Int64) (s1_questions : Int32) (s1_rightOnes : Int32) (s1_wrongOnes : Int32) (s1_isKept : Int32) (s1_dares : Nat → Int32) (s1_times : Nat → Int32) (s2_seed : Int64) (s2_questions : Int32) (s2_rightOnes : Int32) (s2_wrongOnes : Int32) (s2_isKept : Int32) (s2_dares : Nat → Int32) (s2_times : Nat → Int32) (ta_size : Int32) (ta_hands : Nat → Int32) (ta_ones : Nat → Int32) (ta_cells : Nat → Int64) (tr_waited : Int32) (tr_size : Int32) (tr_hands : Nat → Int32) (m_readMany : Int32) (m_pupils : Int32) (m_mood : Int32) (m_length : Int32) (m_at : Int32) (m_faultAt : Int32) (m_drawn : Int64) (m_questions : Int32) (m_rights : Int32) (m_wrongs : Int32) (m_tapes : Int32) (m_trials : Int32) (m_read : Nat → Int32) (m_pupil : Nat → Int32) (m_dares : Nat → Int32) (m_times : Nat → Int32) (m_text : Nat → Int32) (m_joint : Nat → Int64) (m_others : Nat → Int64) (m_tapeHands : Nat → Int32) (m_tapeTaken : Nat → Int32) (m_trialHands : Nat → Int32) (m_trialWaited : Nat → Int32) (m_isKept : Nat → Int32) (m_keptDares : Nat → Int32) (m_keptTimes : Nat → Int32) (m_keptDrawn : Nat → Int64) (m_keptLesson : Nat → Int32), Rel (i + 1) tx_length tx_bytes ro_pupils ro_mood ro_letters ro_rows ro_columns ro_tenths ro_needs ro_toldDares le_seed le_questions le_rightOnes le_wrongOnes le_dares le_times s1_seed s1_questions s1_rightOnes s1_wrongOnes s1_isKept s1_dares s1_times s2_seed s2_questions s2_rightOnes s2_wrongOnes s2_isKept s2_dares s2_times ta_size ta_hands ta_ones tr_waited tr_size tr_hands m_pupils m_mood m_length m_drawn m_questions m_rights m_wrongs m_tapes m_trials m_pupil m_dares m_times m_text m_tapeHands m_tapeTaken m_trialHands m_trialWaited m_isKept m_keptDares m_keptTimes m_keptDrawn m_keptLesson → ∀ (w : va_W) (H : Heap) (locs : List Loc), va_P D vwCl w H → va_D (fun q : Nat => s.heap.size ≤ q) w → va_S (fun q : Nat => s.heap.size ≤ q) s.heap H locs → wAll a cI cJ cZ w tx_length tx_bytes ro_pupils ro_mood ro_letters ro_rows ro_columns ro_tenths ro_needs ro_toldDares le_seed le_questions le_rightOnes le_wrongOnes le_isKept le_dares le_times ha_cells ch_pupils ch_rule ch_ranks ch_eligible ch_eligibleAndRight ch_cells s1_seed s1_questions s1_rightOnes s1_wrongOnes s1_isKept s1_dares s1_times s2_seed s2_questions s2_rightOnes s2_wrongOnes s2_isKept s2_dares s2_times ta_size ta_hands ta_ones ta_cells tr_waited tr_size tr_hands m_readMany m_pupils m_mood m_length m_at m_faultAt m_drawn m_questions m_rights m_wrongs m_tapes m_trials m_read m_pupil m_dares m_times m_text m_joint m_others m_tapeHands m_tapeTaken m_trialHands m_trialWaited m_isKept m_keptDares m_keptTimes m_keptDrawn m_keptLesson → ∀ ls : Array Slot, lv_has ls 4 [(0, .ref b), (1, .ref (a 0)), (2, .ref (a 35)), (3, .int (nI i))] → W p l e room_1 s m #[Value.ref b] below meth c H locs 52 1402 (lw_Z below #[Value.ref b] s) (F0 m 1535 ls [])) : W p l e room_1 s m #[Value.ref b] below meth c H locs 52 1402 (lw_Z below #[Value.ref b] s) (F0 m 277 ls []) := by
  obtain ⟨-, -, -, -, -, -, hX, hbl, -, -⟩ := C0
  obtain ⟨hx, hb, hr, hml, hown, hts, hlk, hK, hN⟩ := id X
  have hown : s.vm.findClass RL = some m.cls := hown
  have hbA : ¬ (fun q : Nat => s.heap.size ≤ q) b := Nat.not_le.mpr hbl
  obtain ⟨h0, h1, h2, h3, h4, h5, h6, h7, h8, h9, h10, h11, h12, h13, h14, h15, h16, h17, h18, h19, h20, h21, h22, h23, h24, h25, h26, h27, h28, h29, h30, h31, h32, h33, h34, h35, h36, h37, h38, h39, h40, h41, h42, h43, h44, h45, h46, h47, h48, h49, h50, h51⟩ := hw
  have i1 : vp_in (nI i + (1 : Int32)) L := by rw [show (1 : Int32) = nI 1 from rfl, nI_add]; exact vp_in_nI (by omega) (by omega)
  have i2 : vp_in (nI i + (2 : Int32)) L := by rw [show (2 : Int32) = nI 2 from rfl, nI_add]; exact vp_in_nI (by omega) (by omega)
  have i3 : vp_in (nI i + (3 : Int32)) L := by rw [show (3 : Int32) = nI 3 from rfl, nI_add]; exact vp_in_nI (by omega) (by omega)
  have i4 : vp_in (nI i + (4 : Int32)) L := by rw [show (4 : Int32) = nI 4 from rfl, nI_add]; exact vp_in_nI (by omega) (by omega)
  have i5 : vp_in (nI i + (5 : Int32)) L := by rw [show (5 : Int32) = nI 5 from rfl, nI_add]; exact vp_in_nI (by omega) (by omega)
  obtain ⟨u, v, hu, hv, he, hR2⟩ := P_room i (by omega) tx_length tx_bytes ro_pupils ro_mood ro_letters ro_rows ro_columns ro_tenths ro_needs ro_toldDares le_seed le_questions le_rightOnes le_wrongOnes le_isKept le_dares le_times ha_cells ch_pupils ch_rule ch_ranks ch_eligible ch_eligibleAndRight ch_cells s1_seed s1_questions s1_rightOnes s1_wrongOnes s1_isKept s1_dares s1_times s2_seed s2_questions s2_rightOnes s2_wrongOnes s2_isKept s2_dares s2_times ta_size ta_hands ta_ones ta_cells tr_waited tr_size tr_hands m_readMany m_pupils m_mood m_length m_at m_faultAt m_drawn m_questions m_rights m_wrongs m_tapes m_trials m_read m_pupil m_dares m_times m_text m_joint m_others m_tapeHands m_tapeTaken m_trialHands m_trialWaited m_isKept m_keptDares m_keptTimes m_keptDrawn m_keptLesson   hR
  refine lv_aload_n hx hb dL_law_277 rfl (lv_at hl 1 rfl) ?_
  refine wr_i (runV (As := []) (rest := []) X cq_X8_room lk_L_29 (c_X8_room l D cI cJ cZ a ws0 (fun q : Nat => s.heap.size ≤ q) tx_length tx_bytes ro_pupils ro_mood ro_letters ro_rows ro_columns ro_tenths ro_needs ro_toldDares le_seed le_questions le_rightOnes le_wrongOnes le_isKept le_dares le_times s1_seed s1_questions s1_rightOnes s1_wrongOnes s1_isKept s2_seed s2_questions s2_rightOnes s2_wrongOnes s2_isKept u hu h0 h1 h2 h3 h4 h5 h6 h7 h8 h9 h10 h11 h12 h22 h25 hD) rfl rfl ⟨Nat.le_of_ble_eq_true rfl, Nat.le_of_ble_eq_true rfl⟩ hP h0 rfl rfl hl.1 rfl (Nat.le_of_ble_eq_true rfl) dL_law_278 ⟨Nat.le_of_ble_eq_true rfl, Nat.le_of_ble_eq_true rfl⟩) hS (fun w1 H locs hP hD hk hB hS => ?_)
  obtain ⟨hB0, hB1, hB2, hB3, hB4, hB5, hB6, hB7, hB8, hB9, hB10, hB11⟩ := hB
  have h3 : w1[3]? = some (a 3, .inr (3, [.ref (a 4), .ref (a 5), .ref (a 6), .ref (a 7), .ref (a 8), .ref (a 9), .ref (a 10), .int u.2.1, .int ro_mood])) := hB0
  have h12 : w1[12]? = some (a 12, .inl (cI, 12, .inl u.2.2.1)) := hB1
  have h10 : w1[10]? = some (a 10, .inr (2, [.ref (a 11), .ref (a 12), .long u.2.2.2.1, .int u.2.2.2.2.1, .int u.2.2.2.2.2.1, .int u.2.2.2.2.2.2.1, .int le_isKept])) := hB2
  have h4 : w1[4]? = some (a 4, .inl (cI, 12, .inl u.2.2.2.2.2.2.2.1)) := hB3
  have h5 : w1[5]? = some (a 5, .inl (cI, 12, .inl u.2.2.2.2.2.2.2.2.1)) := hB4
  have h6 : w1[6]? = some (a 6, .inl (cI, 12, .inl u.2.2.2.2.2.2.2.2.2.1)) := hB5
  have h7 : w1[7]? = some (a 7, .inl (cI, 12, .inl u.2.2.2.2.2.2.2.2.2.2.1)) := hB6
  have h8 : w1[8]? = some (a 8, .inl (cI, 12, .inl u.2.2.2.2.2.2.2.2.2.2.2.1)) := hB7
  have h9 : w1[9]? = some (a 9, .inl (cI, 12, .inl u.2.2.2.2.2.2.2.2.2.2.2.2.1)) := hB8
  have h11 : w1[11]? = some (a 11, .inl (cI, 12, .inl u.2.2.2.2.2.2.2.2.2.2.2.2.2.1)) := hB9
  have h22 : w1[22]? = some (a 22, .inr (2, [.ref (a 23), .ref (a 24), .long s1_seed, .int s1_questions, .int s1_rightOnes, .int s1_wrongOnes, .int u.2.2.2.2.2.2.2.2.2.2.2.2.2.2.1])) := hB10
  have h25 : w1[25]? = some (a 25, .inr (2, [.ref (a 26), .ref (a 27), .long s2_seed, .int s2_questions, .int s2_rightOnes, .int s2_wrongOnes, .int u.2.2.2.2.2.2.2.2.2.2.2.2.2.2.2])) := hB11
  have h0 := (hk 0 (by decide)).trans h0
  have h1 := (hk 1 (by decide)).trans h1
  have h2 := (hk 2 (by decide)).trans h2
  have h13 := (hk 13 (by decide)).trans h13
  have h14 := (hk 14 (by decide)).trans h14
  have h15 := (hk 15 (by decide)).trans h15
  have h16 := (hk 16 (by decide)).trans h16
  have h17 := (hk 17 (by decide)).trans h17
  have h18 := (hk 18 (by decide)).trans h18
  have h19 := (hk 19 (by decide)).trans h19
  have h20 := (hk 20 (by decide)).trans h20
  have h21 := (hk 21 (by decide)).trans h21
  have h23 := (hk 23 (by decide)).trans h23
  have h24 := (hk 24 (by decide)).trans h24
  have h26 := (hk 26 (by decide)).trans h26
  have h27 := (hk 27 (by decide)).trans h27
  have h28 := (hk 28 (by decide)).trans h28
  have h29 := (hk 29 (by decide)).trans h29
  have h30 := (hk 30 (by decide)).trans h30
  have h31 := (hk 31 (by decide)).trans h31
  have h32 := (hk 32 (by decide)).trans h32
  have h33 := (hk 33 (by decide)).trans h33
  have h34 := (hk 34 (by decide)).trans h34
  have h35 := (hk 35 (by decide)).trans h35
  have h36 := (hk 36 (by decide)).trans h36
  have h37 := (hk 37 (by decide)).trans h37
  have h38 := (hk 38 (by decide)).trans h38
  have h39 := (hk 39 (by decide)).trans h39
  have h40 := (hk 40 (by decide)).trans h40
  have h41 := (hk 41 (by decide)).trans h41
  have h42 := (hk 42 (by decide)).trans h42
  have h43 := (hk 43 (by decide)).trans h43
  have h44 := (hk 44 (by decide)).trans h44
  have h45 := (hk 45 (by decide)).trans h45
  have h46 := (hk 46 (by decide)).trans h46
  have h47 := (hk 47 (by decide)).trans h47
  have h48 := (hk 48 (by decide)).trans h48
  have h49 := (hk 49 (by decide)).trans h49
  have h50 := (hk 50 (by decide)).trans h50
  have h51 := (hk 51 (by decide)).trans h51
  refine lv_aload_n hx hb dL_law_281 rfl (lv_at hl 2 rfl) ?_
  refine wr_i (runV (As := []) (rest := [.int u.1]) X cq_X9_room lk_L_32 (c_X9_room l D cI cJ cZ a w1 (fun q : Nat => s.heap.size ≤ q) m_readMany m_pupils m_mood m_length m_at m_faultAt m_drawn m_questions m_rights m_wrongs m_tapes m_trials m_read m_text m_pupil m_dares m_times m_isKept v hv h35 h36 h37 h38 h39 h40 h47 hD) rfl rfl ⟨Nat.le_of_ble_eq_true rfl, Nat.le_of_ble_eq_true rfl⟩ hP h35 rfl rfl hl.1 rfl (Nat.le_of_ble_eq_true rfl) dL_law_282 ⟨Nat.le_of_ble_eq_true rfl, Nat.le_of_ble_eq_true rfl⟩) hS (fun w2 H locs hP hD hk hB hS => ?_)
  obtain ⟨hB0, hB1, hB2, hB3, hB4, hB5⟩ := hB
  have h35 : w2[35]? = some (a 35, .inr (9, [.ref (a 36), .int v.2.2.2.1, .ref (a 37), .int v.2.2.2.2.2.2.1, .ref (a 38), .ref (a 39), .int m_mood, .ref (a 40), .int m_length, .int v.2.1, .int v.2.2.1, .ref (a 41), .ref (a 42), .long v.2.2.2.2.2.2.2.2.2.1, .int v.2.2.2.2.2.2.2.2.2.2.1, .int v.2.2.2.2.2.2.2.2.2.2.2.1, .int v.2.2.2.2.2.2.2.2.2.2.2.2.1, .int m_tapes, .ref (a 43), .ref (a 44), .int m_trials, .ref (a 45), .ref (a 46), .ref (a 47), .ref (a 48), .ref (a 49), .ref (a 50), .ref (a 51)])) := hB0
  have h36 : w2[36]? = some (a 36, .inl (cI, 72, .inl v.2.2.2.2.1)) := hB1
  have h37 : w2[37]? = some (a 37, .inl (cI, 72, .inl v.2.2.2.2.2.1)) := hB2
  have h38 : w2[38]? = some (a 38, .inl (cI, 12, .inl v.2.2.2.2.2.2.2.1)) := hB3
  have h39 : w2[39]? = some (a 39, .inl (cI, 12, .inl v.2.2.2.2.2.2.2.2.1)) := hB4
  have h47 : w2[47]? = some (a 47, .inl (cZ, 2, .inl v.2.2.2.2.2.2.2.2.2.2.2.2.2)) := hB5
  have h0 := (hk 0 (by decide)).trans h0
  have h1 := (hk 1 (by decide)).trans h1
  have h2 := (hk 2 (by decide)).trans h2
  have h3 := (hk 3 (by decide)).trans h3
  have h4 := (hk 4 (by decide)).trans h4
  have h5 := (hk 5 (by decide)).trans h5
  have h6 := (hk 6 (by decide)).trans h6
  have h7 := (hk 7 (by decide)).trans h7
  have h8 := (hk 8 (by decide)).trans h8
  have h9 := (hk 9 (by decide)).trans h9
  have h10 := (hk 10 (by decide)).trans h10
  have h11 := (hk 11 (by decide)).trans h11
  have h12 := (hk 12 (by decide)).trans h12
  have h13 := (hk 13 (by decide)).trans h13
  have h14 := (hk 14 (by decide)).trans h14
  have h15 := (hk 15 (by decide)).trans h15
  have h16 := (hk 16 (by decide)).trans h16
  have h17 := (hk 17 (by decide)).trans h17
  have h18 := (hk 18 (by decide)).trans h18
  have h19 := (hk 19 (by decide)).trans h19
  have h20 := (hk 20 (by decide)).trans h20
  have h21 := (hk 21 (by decide)).trans h21
  have h22 := (hk 22 (by decide)).trans h22
  have h23 := (hk 23 (by decide)).trans h23
  have h24 := (hk 24 (by decide)).trans h24
  have h25 := (hk 25 (by decide)).trans h25
  have h26 := (hk 26 (by decide)).trans h26
  have h27 := (hk 27 (by decide)).trans h27
  have h28 := (hk 28 (by decide)).trans h28
  have h29 := (hk 29 (by decide)).trans h29
  have h30 := (hk 30 (by decide)).trans h30
  have h31 := (hk 31 (by decide)).trans h31
  have h32 := (hk 32 (by decide)).trans h32
  have h33 := (hk 33 (by decide)).trans h33
  have h34 := (hk 34 (by decide)).trans h34
  have h40 := (hk 40 (by decide)).trans h40
  have h41 := (hk 41 (by decide)).trans h41
  have h42 := (hk 42 (by decide)).trans h42
  have h43 := (hk 43 (by decide)).trans h43
  have h44 := (hk 44 (by decide)).trans h44
  have h45 := (hk 45 (by decide)).trans h45
  have h46 := (hk 46 (by decide)).trans h46
  have h48 := (hk 48 (by decide)).trans h48
  have h49 := (hk 49 (by decide)).trans h49
  have h50 := (hk 50 (by decide)).trans h50
  have h51 := (hk 51 (by decide)).trans h51
  refine lv_icmp_eq (tgt := 1535) hx hb dL_law_285 (by decide) (fun _ => ?_) (fun q => absurd he q)
  exact KK tx_length tx_bytes u.2.1 ro_mood u.2.2.2.2.2.2.2.1 u.2.2.2.2.2.2.2.2.1 u.2.2.2.2.2.2.2.2.2.1 u.2.2.2.2.2.2.2.2.2.2.1 u.2.2.2.2.2.2.2.2.2.2.2.1 u.2.2.2.2.2.2.2.2.2.2.2.2.1 u.2.2.2.1 u.2.2.2.2.1 u.2.2.2.2.2.1 u.2.2.2.2.2.2.1 le_isKept u.2.2.2.2.2.2.2.2.2.2.2.2.2.1 u.2.2.1 ha_cells ch_pupils ch_rule ch_ranks ch_eligible ch_eligibleAndRight ch_cells s1_seed s1_questions s1_rightOnes s1_wrongOnes u.2.2.2.2.2.2.2.2.2.2.2.2.2.2.1 s1_dares s1_times s2_seed s2_questions s2_rightOnes s2_wrongOnes u.2.2.2.2.2.2.2.2.2.2.2.2.2.2.2 s2_dares s2_times ta_size ta_hands ta_ones ta_cells tr_waited tr_size tr_hands v.2.2.2.1 v.2.2.2.2.2.2.1 m_mood m_length v.2.1 v.2.2.1 v.2.2.2.2.2.2.2.2.2.1 v.2.2.2.2.2.2.2.2.2.2.1 v.2.2.2.2.2.2.2.2.2.2.2.1 v.2.2.2.2.2.2.2.2.2.2.2.2.1 m_tapes m_trials v.2.2.2.2.1 v.2.2.2.2.2.1 v.2.2.2.2.2.2.2.1 v.2.2.2.2.2.2.2.2.1 m_text m_joint m_others m_tapeHands m_tapeTaken m_trialHands m_trialWaited v.2.2.2.2.2.2.2.2.2.2.2.2.2 m_keptDares m_keptTimes m_keptDrawn m_keptLesson hR2 _ _ _ hP hD hS ⟨h0, h1, h2, h3, h4, h5, h6, h7, h8, h9, h10, h11, h12, h13, h14, h15, h16, h17, h18, h19, h20, h21, h22, h23, h24, h25, h26, h27, h28, h29, h30, h31, h32, h33, h34, h35, h36, h37, h38, h39, h40, h41, h42, h43, h44, h45, h46, h47, h48, h49, h50, h51⟩ ls hl
set_option maxHeartbeats 4000000 in
set_option maxRecDepth 100000 in
theorem case_4 {p : Program} {l : Launch} {e : Env} {s : State} {m : MethodId} {below : List Frame} {meth : Method} {c : Code} {D : va_G} {cI cJ cZ : ClassId} {a : Nat → Nat} {b L : Nat} {xs : Nat → Int32} (C0 : lw_At p s m meth c b L xs) (X : Cx yL_law code 4 ret D cI cJ cZ p s m #[Value.ref b] meth c) (i : Nat) (hi : i + 5 < L) (hL : L ≤ 3072) (tx_length : Int32) (tx_bytes : Nat → Int32) (ro_pupils : Int32) (ro_mood : Int32) (ro_letters : Nat → Int32) (ro_rows : Nat → Int32) (ro_columns : Nat → Int32) (ro_tenths : Nat → Int32) (ro_needs : Nat → Int32) (ro_toldDares : Nat → Int32) (le_seed : Int64) (le_questions : Int32) (le_rightOnes : Int32) (le_wrongOnes : Int32) (le_isKept : Int32) (le_dares : Nat → Int32) (le_times : Nat → Int32) (ha_cells : Nat → Int64) (ch_pupils : Int32) (ch_rule : Int32) (ch_ranks : Nat → Int32) (ch_eligible : Nat → Int32) (ch_eligibleAndRight : Nat → Int32) (ch_cells : Nat → Int64) (s1_seed : Int64) (s1_questions : Int32) (s1_rightOnes : Int32) (s1_wrongOnes : Int32) (s1_isKept : Int32) (s1_dares : Nat → Int32) (s1_times : Nat → Int32) (s2_seed : Int64) (s2_questions : Int32) (s2_rightOnes : Int32) (s2_wrongOnes : Int32) (s2_isKept : Int32) (s2_dares : Nat → Int32) (s2_times : Nat → Int32) (ta_size : Int32) (ta_hands : Nat → Int32) (ta_ones : Nat → Int32) (ta_cells : Nat → Int64) (tr_waited : Int32) (tr_size : Int32) (tr_hands : Nat → Int32) (m_readMany : Int32) (m_pupils : Int32) (m_mood : Int32) (m_length : Int32) (m_at : Int32) (m_faultAt : Int32) (m_drawn : Int64) (m_questions : Int32) (m_rights : Int32) (m_wrongs : Int32) (m_tapes : Int32) (m_trials : Int32) (m_read : Nat → Int32) (m_pupil : Nat → Int32) (m_dares : Nat → Int32) (m_times : Nat → Int32) (m_text : Nat → Int32) (m_joint : Nat → Int64) (m_others : Nat → Int64) (m_tapeHands : Nat → Int32) (m_tapeTaken : Nat → Int32) (m_trialHands : Nat → Int32) (m_trialWaited : Nat → Int32) (m_isKept : Nat → Int32) (m_keptDares : Nat → Int32) (m_keptTimes : Nat → Int32) (m_keptDrawn : Nat → Int64) (m_keptLesson : Nat → Int32) (hR : Rel i tx_length tx_bytes ro_pupils ro_mood ro_letters ro_rows ro_columns ro_tenths ro_needs ro_toldDares le_seed le_questions le_rightOnes le_wrongOnes le_dares le_times s1_seed s1_questions s1_rightOnes s1_wrongOnes s1_isKept s1_dares s1_times s2_seed s2_questions s2_rightOnes s2_wrongOnes s2_isKept s2_dares s2_times ta_size ta_hands ta_ones tr_waited tr_size tr_hands m_pupils m_mood m_length m_drawn m_questions m_rights m_wrongs m_tapes m_trials m_pupil m_dares m_times m_text m_tapeHands m_tapeTaken m_trialHands m_trialWaited m_isKept m_keptDares m_keptTimes m_keptDrawn m_keptLesson) (ws0 : va_W) (H : Heap) (locs : List Loc) (hP : va_P D vwCl ws0 H) (hD : va_D (fun q : Nat => s.heap.size ≤ q) ws0) (hS : va_S (fun q : Nat => s.heap.size ≤ q) s.heap H locs) (hw : wAll a cI cJ cZ ws0 tx_length tx_bytes ro_pupils ro_mood ro_letters ro_rows ro_columns ro_tenths ro_needs ro_toldDares le_seed le_questions le_rightOnes le_wrongOnes le_isKept le_dares le_times ha_cells ch_pupils ch_rule ch_ranks ch_eligible ch_eligibleAndRight ch_cells s1_seed s1_questions s1_rightOnes s1_wrongOnes s1_isKept s1_dares s1_times s2_seed s2_questions s2_rightOnes s2_wrongOnes s2_isKept s2_dares s2_times ta_size ta_hands ta_ones ta_cells tr_waited tr_size tr_hands m_readMany m_pupils m_mood m_length m_at m_faultAt m_drawn m_questions m_rights m_wrongs m_tapes m_trials m_read m_pupil m_dares m_times m_text m_joint m_others m_tapeHands m_tapeTaken m_trialHands m_trialWaited m_isKept m_keptDares m_keptTimes m_keptDrawn m_keptLesson) (ls : Array Slot) (hl : lv_has ls 4 [(0, .ref b), (1, .ref (a 0)), (2, .ref (a 35)), (3, .int (nI i))]) (KK : ∀ (tx_length : Int32) (tx_bytes : Nat → Int32) (ro_pupils : Int32) (ro_mood : Int32) (ro_letters : Nat → Int32) (ro_rows : Nat → Int32) (ro_columns : Nat → Int32) (ro_tenths : Nat → Int32) (ro_needs : Nat → Int32) (ro_toldDares : Nat → Int32) (le_seed : Int64) (le_questions : Int32) (le_rightOnes : Int32) (le_wrongOnes : Int32) (le_isKept : Int32) (le_dares : Nat → Int32) (le_times : Nat → Int32) (ha_cells : Nat → Int64) (ch_pupils : Int32) (ch_rule : Int32) (ch_ranks : Nat → Int32) (ch_eligible : Nat → Int32) (ch_eligibleAndRight : Nat → Int32) (ch_cells : Nat → Int64) (s1_seed : Int64) (s1_questions : Int32) (s1_rightOnes : Int32) (s1_wrongOnes : Int32) (s1_isKept : Int32) (s1_dares : Nat → Int32) (s1_times : Nat → Int32) (s2_seed : Int64) (s2_questions : Int32) (s2_rightOnes : Int32) (s2_wrongOnes : Int32) (s2_isKept : Int32) (s2_dares : Nat → Int32) (s2_times : Nat → Int32) (ta_size : Int32) (ta_hands : Nat → Int32) (ta_ones : Nat → Int32) (ta_cells : Nat → Int64) (tr_waited : Int32) (tr_size : Int32) (tr_hands : Nat → Int32) (m_readMany : Int32) (m_pupils : Int32) (m_mood : Int32) (m_length : Int32) (m_at : Int32) (m_faultAt : Int32) (m_drawn : Int64) (m_questions : Int32) (m_rights : Int32) (m_wrongs : Int32) (m_tapes : Int32) (m_trials : Int32) (m_read : Nat → Int32) (m_pupil : Nat → Int32) (m_dares : Nat → Int32) (m_times : Nat → Int32) (m_text : Nat → Int32) (m_joint : Nat → Int64) (m_others : Nat → Int64) (m_tapeHands : Nat → Int32) (m_tapeTaken : Nat → Int32) (m_trialHands : Nat → Int32) (m_trialWaited : Nat → Int32) (m_isKept : Nat → Int32) (m_keptDares : Nat → Int32) (m_keptTimes : Nat → Int32) (m_keptDrawn : Nat → Int64) (m_keptLesson : Nat → Int32), Rel (i + 1) tx_length tx_bytes ro_pupils ro_mood ro_letters ro_rows ro_columns ro_tenths ro_needs ro_toldDares le_seed le_questions le_rightOnes le_wrongOnes le_dares le_times s1_seed s1_questions s1_rightOnes s1_wrongOnes s1_isKept s1_dares s1_times s2_seed s2_questions s2_rightOnes s2_wrongOnes s2_isKept s2_dares s2_times ta_size ta_hands ta_ones tr_waited tr_size tr_hands m_pupils m_mood m_length m_drawn m_questions m_rights m_wrongs m_tapes m_trials m_pupil m_dares m_times m_text m_tapeHands m_tapeTaken m_trialHands m_trialWaited m_isKept m_keptDares m_keptTimes m_keptDrawn m_keptLesson → ∀ (w : va_W) (H : Heap) (locs : List Loc), va_P D vwCl w H → va_D (fun q : Nat => s.heap.size ≤ q) w → va_S (fun q : Nat => s.heap.size ≤ q) s.heap H locs → wAll a cI cJ cZ w tx_length tx_bytes ro_pupils ro_mood ro_letters ro_rows ro_columns ro_tenths ro_needs ro_toldDares le_seed le_questions le_rightOnes le_wrongOnes le_isKept le_dares le_times ha_cells ch_pupils ch_rule ch_ranks ch_eligible ch_eligibleAndRight ch_cells s1_seed s1_questions s1_rightOnes s1_wrongOnes s1_isKept s1_dares s1_times s2_seed s2_questions s2_rightOnes s2_wrongOnes s2_isKept s2_dares s2_times ta_size ta_hands ta_ones ta_cells tr_waited tr_size tr_hands m_readMany m_pupils m_mood m_length m_at m_faultAt m_drawn m_questions m_rights m_wrongs m_tapes m_trials m_read m_pupil m_dares m_times m_text m_joint m_others m_tapeHands m_tapeTaken m_trialHands m_trialWaited m_isKept m_keptDares m_keptTimes m_keptDrawn m_keptLesson → ∀ ls : Array Slot, lv_has ls 4 [(0, .ref b), (1, .ref (a 0)), (2, .ref (a 35)), (3, .int (nI i))] → W p l e room_1 s m #[Value.ref b] below meth c H locs 52 1402 (lw_Z below #[Value.ref b] s) (F0 m 1535 ls [])) : W p l e room_1 s m #[Value.ref b] below meth c H locs 52 1402 (lw_Z below #[Value.ref b] s) (F0 m 290 ls []) := by
  obtain ⟨-, -, -, -, -, -, hX, hbl, -, -⟩ := C0
  obtain ⟨hx, hb, hr, hml, hown, hts, hlk, hK, hN⟩ := id X
  have hown : s.vm.findClass RL = some m.cls := hown
  have hbA : ¬ (fun q : Nat => s.heap.size ≤ q) b := Nat.not_le.mpr hbl
  obtain ⟨h0, h1, h2, h3, h4, h5, h6, h7, h8, h9, h10, h11, h12, h13, h14, h15, h16, h17, h18, h19, h20, h21, h22, h23, h24, h25, h26, h27, h28, h29, h30, h31, h32, h33, h34, h35, h36, h37, h38, h39, h40, h41, h42, h43, h44, h45, h46, h47, h48, h49, h50, h51⟩ := hw
  have i1 : vp_in (nI i + (1 : Int32)) L := by rw [show (1 : Int32) = nI 1 from rfl, nI_add]; exact vp_in_nI (by omega) (by omega)
  have i2 : vp_in (nI i + (2 : Int32)) L := by rw [show (2 : Int32) = nI 2 from rfl, nI_add]; exact vp_in_nI (by omega) (by omega)
  have i3 : vp_in (nI i + (3 : Int32)) L := by rw [show (3 : Int32) = nI 3 from rfl, nI_add]; exact vp_in_nI (by omega) (by omega)
  have i4 : vp_in (nI i + (4 : Int32)) L := by rw [show (4 : Int32) = nI 4 from rfl, nI_add]; exact vp_in_nI (by omega) (by omega)
  have i5 : vp_in (nI i + (5 : Int32)) L := by rw [show (5 : Int32) = nI 5 from rfl, nI_add]; exact vp_in_nI (by omega) (by omega)
  obtain ⟨u, v, hu, hv, he, hR2⟩ := P_about i (by omega) tx_length tx_bytes ro_pupils ro_mood ro_letters ro_rows ro_columns ro_tenths ro_needs ro_toldDares le_seed le_questions le_rightOnes le_wrongOnes le_isKept le_dares le_times ha_cells ch_pupils ch_rule ch_ranks ch_eligible ch_eligibleAndRight ch_cells s1_seed s1_questions s1_rightOnes s1_wrongOnes s1_isKept s1_dares s1_times s2_seed s2_questions s2_rightOnes s2_wrongOnes s2_isKept s2_dares s2_times ta_size ta_hands ta_ones ta_cells tr_waited tr_size tr_hands m_readMany m_pupils m_mood m_length m_at m_faultAt m_drawn m_questions m_rights m_wrongs m_tapes m_trials m_read m_pupil m_dares m_times m_text m_joint m_others m_tapeHands m_tapeTaken m_trialHands m_trialWaited m_isKept m_keptDares m_keptTimes m_keptDrawn m_keptLesson (xs (nI i + (1 : Int32)).toNatClampNeg) (xs (nI i + (2 : Int32)).toNatClampNeg)  hR
  refine lv_aload_n hx hb dL_law_290 rfl (lv_at hl 1 rfl) ?_
  refine lv_aload_n hx hb dL_law_291 rfl (lv_at hl 0 rfl) ?_
  refine lv_iload_n hx hb dL_law_292 rfl (lv_at hl 3 rfl) ?_
  refine lv_iconst (v := (1 : Int32)) hx hb dL_law_293 (by decide) ?_
  refine lv_iadd hx hb dL_law_294 ?_
  refine va_sld hx hb hX hbl hbA hS i1 dL_law_295 ?_
  refine lv_aload_n hx hb dL_law_296 rfl (lv_at hl 0 rfl) ?_
  refine lv_iload_n hx hb dL_law_297 rfl (lv_at hl 3 rfl) ?_
  refine lv_iconst (v := (2 : Int32)) hx hb dL_law_298 (by decide) ?_
  refine lv_iadd hx hb dL_law_299 ?_
  refine va_sld hx hb hX hbl hbA hS i2 dL_law_300 ?_
  refine rd_i (runV (As := [.int (xs (nI i + (1 : Int32)).toNatClampNeg), .int (xs (nI i + (2 : Int32)).toNatClampNeg)]) (rest := []) X cq_X8_about lk_L_33 (c_X8_about l D cI cJ cZ a ws0 ro_pupils ro_mood ro_letters ro_rows ro_columns ro_tenths ro_needs ro_toldDares le_seed le_questions le_rightOnes le_wrongOnes le_isKept le_dares le_times (xs (nI i + (1 : Int32)).toNatClampNeg) (xs (nI i + (2 : Int32)).toNatClampNeg) u hu h0 h3 h4 h5 h6 h7 h8 h9 h10 h11 h12) rfl rfl ⟨Nat.le_of_ble_eq_true rfl, Nat.le_of_ble_eq_true rfl⟩ hP h0 rfl rfl hl.1 rfl (Nat.le_of_ble_eq_true rfl) dL_law_301 ⟨Nat.le_of_ble_eq_true rfl, Nat.le_of_ble_eq_true rfl⟩) ?_
  refine lv_aload_n hx hb dL_law_304 rfl (lv_at hl 2 rfl) ?_
  refine lv_aload_n hx hb dL_law_305 rfl (lv_at hl 0 rfl) ?_
  refine lv_iload_n hx hb dL_law_306 rfl (lv_at hl 3 rfl) ?_
  refine lv_iconst (v := (1 : Int32)) hx hb dL_law_307 (by decide) ?_
  refine lv_iadd hx hb dL_law_308 ?_
  refine va_sld hx hb hX hbl hbA hS i1 dL_law_309 ?_
  refine lv_aload_n hx hb dL_law_310 rfl (lv_at hl 0 rfl) ?_
  refine lv_iload_n hx hb dL_law_311 rfl (lv_at hl 3 rfl) ?_
  refine lv_iconst (v := (2 : Int32)) hx hb dL_law_312 (by decide) ?_
  refine lv_iadd hx hb dL_law_313 ?_
  refine va_sld hx hb hX hbl hbA hS i2 dL_law_314 ?_
  refine rd_i (runV (As := [.int (xs (nI i + (1 : Int32)).toNatClampNeg), .int (xs (nI i + (2 : Int32)).toNatClampNeg)]) (rest := [.int u]) X cq_X9_about lk_L_37 (c_X9_about l D cI cJ cZ a ws0 m_readMany m_pupils m_mood m_length m_at m_faultAt m_drawn m_questions m_rights m_wrongs m_tapes m_trials m_times m_dares m_pupil (xs (nI i + (1 : Int32)).toNatClampNeg) (xs (nI i + (2 : Int32)).toNatClampNeg) v hv h35 h37 h38 h39) rfl rfl ⟨Nat.le_of_ble_eq_true rfl, Nat.le_of_ble_eq_true rfl⟩ hP h35 rfl rfl hl.1 rfl (Nat.le_of_ble_eq_true rfl) dL_law_315 ⟨Nat.le_of_ble_eq_true rfl, Nat.le_of_ble_eq_true rfl⟩) ?_
  refine lv_icmp_eq (tgt := 1535) hx hb dL_law_318 (by decide) (fun _ => ?_) (fun q => absurd he q)
  exact KK tx_length tx_bytes ro_pupils ro_mood ro_letters ro_rows ro_columns ro_tenths ro_needs ro_toldDares le_seed le_questions le_rightOnes le_wrongOnes le_isKept le_dares le_times ha_cells ch_pupils ch_rule ch_ranks ch_eligible ch_eligibleAndRight ch_cells s1_seed s1_questions s1_rightOnes s1_wrongOnes s1_isKept s1_dares s1_times s2_seed s2_questions s2_rightOnes s2_wrongOnes s2_isKept s2_dares s2_times ta_size ta_hands ta_ones ta_cells tr_waited tr_size tr_hands m_readMany m_pupils m_mood m_length m_at m_faultAt m_drawn m_questions m_rights m_wrongs m_tapes m_trials m_read m_pupil m_dares m_times m_text m_joint m_others m_tapeHands m_tapeTaken m_trialHands m_trialWaited m_isKept m_keptDares m_keptTimes m_keptDrawn m_keptLesson hR2 _ _ _ hP hD hS ⟨h0, h1, h2, h3, h4, h5, h6, h7, h8, h9, h10, h11, h12, h13, h14, h15, h16, h17, h18, h19, h20, h21, h22, h23, h24, h25, h26, h27, h28, h29, h30, h31, h32, h33, h34, h35, h36, h37, h38, h39, h40, h41, h42, h43, h44, h45, h46, h47, h48, h49, h50, h51⟩ ls hl
set_option maxHeartbeats 4000000 in
set_option maxRecDepth 100000 in
theorem case_5 {p : Program} {l : Launch} {e : Env} {s : State} {m : MethodId} {below : List Frame} {meth : Method} {c : Code} {D : va_G} {cI cJ cZ : ClassId} {a : Nat → Nat} {b L : Nat} {xs : Nat → Int32} (C0 : lw_At p s m meth c b L xs) (X : Cx yL_law code 4 ret D cI cJ cZ p s m #[Value.ref b] meth c) (i : Nat) (hi : i + 5 < L) (hL : L ≤ 3072) (tx_length : Int32) (tx_bytes : Nat → Int32) (ro_pupils : Int32) (ro_mood : Int32) (ro_letters : Nat → Int32) (ro_rows : Nat → Int32) (ro_columns : Nat → Int32) (ro_tenths : Nat → Int32) (ro_needs : Nat → Int32) (ro_toldDares : Nat → Int32) (le_seed : Int64) (le_questions : Int32) (le_rightOnes : Int32) (le_wrongOnes : Int32) (le_isKept : Int32) (le_dares : Nat → Int32) (le_times : Nat → Int32) (ha_cells : Nat → Int64) (ch_pupils : Int32) (ch_rule : Int32) (ch_ranks : Nat → Int32) (ch_eligible : Nat → Int32) (ch_eligibleAndRight : Nat → Int32) (ch_cells : Nat → Int64) (s1_seed : Int64) (s1_questions : Int32) (s1_rightOnes : Int32) (s1_wrongOnes : Int32) (s1_isKept : Int32) (s1_dares : Nat → Int32) (s1_times : Nat → Int32) (s2_seed : Int64) (s2_questions : Int32) (s2_rightOnes : Int32) (s2_wrongOnes : Int32) (s2_isKept : Int32) (s2_dares : Nat → Int32) (s2_times : Nat → Int32) (ta_size : Int32) (ta_hands : Nat → Int32) (ta_ones : Nat → Int32) (ta_cells : Nat → Int64) (tr_waited : Int32) (tr_size : Int32) (tr_hands : Nat → Int32) (m_readMany : Int32) (m_pupils : Int32) (m_mood : Int32) (m_length : Int32) (m_at : Int32) (m_faultAt : Int32) (m_drawn : Int64) (m_questions : Int32) (m_rights : Int32) (m_wrongs : Int32) (m_tapes : Int32) (m_trials : Int32) (m_read : Nat → Int32) (m_pupil : Nat → Int32) (m_dares : Nat → Int32) (m_times : Nat → Int32) (m_text : Nat → Int32) (m_joint : Nat → Int64) (m_others : Nat → Int64) (m_tapeHands : Nat → Int32) (m_tapeTaken : Nat → Int32) (m_trialHands : Nat → Int32) (m_trialWaited : Nat → Int32) (m_isKept : Nat → Int32) (m_keptDares : Nat → Int32) (m_keptTimes : Nat → Int32) (m_keptDrawn : Nat → Int64) (m_keptLesson : Nat → Int32) (hR : Rel i tx_length tx_bytes ro_pupils ro_mood ro_letters ro_rows ro_columns ro_tenths ro_needs ro_toldDares le_seed le_questions le_rightOnes le_wrongOnes le_dares le_times s1_seed s1_questions s1_rightOnes s1_wrongOnes s1_isKept s1_dares s1_times s2_seed s2_questions s2_rightOnes s2_wrongOnes s2_isKept s2_dares s2_times ta_size ta_hands ta_ones tr_waited tr_size tr_hands m_pupils m_mood m_length m_drawn m_questions m_rights m_wrongs m_tapes m_trials m_pupil m_dares m_times m_text m_tapeHands m_tapeTaken m_trialHands m_trialWaited m_isKept m_keptDares m_keptTimes m_keptDrawn m_keptLesson) (ws0 : va_W) (H : Heap) (locs : List Loc) (hP : va_P D vwCl ws0 H) (hD : va_D (fun q : Nat => s.heap.size ≤ q) ws0) (hS : va_S (fun q : Nat => s.heap.size ≤ q) s.heap H locs) (hw : wAll a cI cJ cZ ws0 tx_length tx_bytes ro_pupils ro_mood ro_letters ro_rows ro_columns ro_tenths ro_needs ro_toldDares le_seed le_questions le_rightOnes le_wrongOnes le_isKept le_dares le_times ha_cells ch_pupils ch_rule ch_ranks ch_eligible ch_eligibleAndRight ch_cells s1_seed s1_questions s1_rightOnes s1_wrongOnes s1_isKept s1_dares s1_times s2_seed s2_questions s2_rightOnes s2_wrongOnes s2_isKept s2_dares s2_times ta_size ta_hands ta_ones ta_cells tr_waited tr_size tr_hands m_readMany m_pupils m_mood m_length m_at m_faultAt m_drawn m_questions m_rights m_wrongs m_tapes m_trials m_read m_pupil m_dares m_times m_text m_joint m_others m_tapeHands m_tapeTaken m_trialHands m_trialWaited m_isKept m_keptDares m_keptTimes m_keptDrawn m_keptLesson) (ls : Array Slot) (hl : lv_has ls 4 [(0, .ref b), (1, .ref (a 0)), (2, .ref (a 35)), (3, .int (nI i))]) (KK : ∀ (tx_length : Int32) (tx_bytes : Nat → Int32) (ro_pupils : Int32) (ro_mood : Int32) (ro_letters : Nat → Int32) (ro_rows : Nat → Int32) (ro_columns : Nat → Int32) (ro_tenths : Nat → Int32) (ro_needs : Nat → Int32) (ro_toldDares : Nat → Int32) (le_seed : Int64) (le_questions : Int32) (le_rightOnes : Int32) (le_wrongOnes : Int32) (le_isKept : Int32) (le_dares : Nat → Int32) (le_times : Nat → Int32) (ha_cells : Nat → Int64) (ch_pupils : Int32) (ch_rule : Int32) (ch_ranks : Nat → Int32) (ch_eligible : Nat → Int32) (ch_eligibleAndRight : Nat → Int32) (ch_cells : Nat → Int64) (s1_seed : Int64) (s1_questions : Int32) (s1_rightOnes : Int32) (s1_wrongOnes : Int32) (s1_isKept : Int32) (s1_dares : Nat → Int32) (s1_times : Nat → Int32) (s2_seed : Int64) (s2_questions : Int32) (s2_rightOnes : Int32) (s2_wrongOnes : Int32) (s2_isKept : Int32) (s2_dares : Nat → Int32) (s2_times : Nat → Int32) (ta_size : Int32) (ta_hands : Nat → Int32) (ta_ones : Nat → Int32) (ta_cells : Nat → Int64) (tr_waited : Int32) (tr_size : Int32) (tr_hands : Nat → Int32) (m_readMany : Int32) (m_pupils : Int32) (m_mood : Int32) (m_length : Int32) (m_at : Int32) (m_faultAt : Int32) (m_drawn : Int64) (m_questions : Int32) (m_rights : Int32) (m_wrongs : Int32) (m_tapes : Int32) (m_trials : Int32) (m_read : Nat → Int32) (m_pupil : Nat → Int32) (m_dares : Nat → Int32) (m_times : Nat → Int32) (m_text : Nat → Int32) (m_joint : Nat → Int64) (m_others : Nat → Int64) (m_tapeHands : Nat → Int32) (m_tapeTaken : Nat → Int32) (m_trialHands : Nat → Int32) (m_trialWaited : Nat → Int32) (m_isKept : Nat → Int32) (m_keptDares : Nat → Int32) (m_keptTimes : Nat → Int32) (m_keptDrawn : Nat → Int64) (m_keptLesson : Nat → Int32), Rel (i + 1) tx_length tx_bytes ro_pupils ro_mood ro_letters ro_rows ro_columns ro_tenths ro_needs ro_toldDares le_seed le_questions le_rightOnes le_wrongOnes le_dares le_times s1_seed s1_questions s1_rightOnes s1_wrongOnes s1_isKept s1_dares s1_times s2_seed s2_questions s2_rightOnes s2_wrongOnes s2_isKept s2_dares s2_times ta_size ta_hands ta_ones tr_waited tr_size tr_hands m_pupils m_mood m_length m_drawn m_questions m_rights m_wrongs m_tapes m_trials m_pupil m_dares m_times m_text m_tapeHands m_tapeTaken m_trialHands m_trialWaited m_isKept m_keptDares m_keptTimes m_keptDrawn m_keptLesson → ∀ (w : va_W) (H : Heap) (locs : List Loc), va_P D vwCl w H → va_D (fun q : Nat => s.heap.size ≤ q) w → va_S (fun q : Nat => s.heap.size ≤ q) s.heap H locs → wAll a cI cJ cZ w tx_length tx_bytes ro_pupils ro_mood ro_letters ro_rows ro_columns ro_tenths ro_needs ro_toldDares le_seed le_questions le_rightOnes le_wrongOnes le_isKept le_dares le_times ha_cells ch_pupils ch_rule ch_ranks ch_eligible ch_eligibleAndRight ch_cells s1_seed s1_questions s1_rightOnes s1_wrongOnes s1_isKept s1_dares s1_times s2_seed s2_questions s2_rightOnes s2_wrongOnes s2_isKept s2_dares s2_times ta_size ta_hands ta_ones ta_cells tr_waited tr_size tr_hands m_readMany m_pupils m_mood m_length m_at m_faultAt m_drawn m_questions m_rights m_wrongs m_tapes m_trials m_read m_pupil m_dares m_times m_text m_joint m_others m_tapeHands m_tapeTaken m_trialHands m_trialWaited m_isKept m_keptDares m_keptTimes m_keptDrawn m_keptLesson → ∀ ls : Array Slot, lv_has ls 4 [(0, .ref b), (1, .ref (a 0)), (2, .ref (a 35)), (3, .int (nI i))] → W p l e room_1 s m #[Value.ref b] below meth c H locs 52 1402 (lw_Z below #[Value.ref b] s) (F0 m 1535 ls [])) : W p l e room_1 s m #[Value.ref b] below meth c H locs 52 1402 (lw_Z below #[Value.ref b] s) (F0 m 323 ls []) := by
  obtain ⟨-, -, -, -, -, -, hX, hbl, -, -⟩ := C0
  obtain ⟨hx, hb, hr, hml, hown, hts, hlk, hK, hN⟩ := id X
  have hown : s.vm.findClass RL = some m.cls := hown
  have hbA : ¬ (fun q : Nat => s.heap.size ≤ q) b := Nat.not_le.mpr hbl
  obtain ⟨h0, h1, h2, h3, h4, h5, h6, h7, h8, h9, h10, h11, h12, h13, h14, h15, h16, h17, h18, h19, h20, h21, h22, h23, h24, h25, h26, h27, h28, h29, h30, h31, h32, h33, h34, h35, h36, h37, h38, h39, h40, h41, h42, h43, h44, h45, h46, h47, h48, h49, h50, h51⟩ := hw
  have i1 : vp_in (nI i + (1 : Int32)) L := by rw [show (1 : Int32) = nI 1 from rfl, nI_add]; exact vp_in_nI (by omega) (by omega)
  have i2 : vp_in (nI i + (2 : Int32)) L := by rw [show (2 : Int32) = nI 2 from rfl, nI_add]; exact vp_in_nI (by omega) (by omega)
  have i3 : vp_in (nI i + (3 : Int32)) L := by rw [show (3 : Int32) = nI 3 from rfl, nI_add]; exact vp_in_nI (by omega) (by omega)
  have i4 : vp_in (nI i + (4 : Int32)) L := by rw [show (4 : Int32) = nI 4 from rfl, nI_add]; exact vp_in_nI (by omega) (by omega)
  have i5 : vp_in (nI i + (5 : Int32)) L := by rw [show (5 : Int32) = nI 5 from rfl, nI_add]; exact vp_in_nI (by omega) (by omega)
  obtain ⟨u, v, hu, hv, he, hR2⟩ := P_mood i (by omega) tx_length tx_bytes ro_pupils ro_mood ro_letters ro_rows ro_columns ro_tenths ro_needs ro_toldDares le_seed le_questions le_rightOnes le_wrongOnes le_isKept le_dares le_times ha_cells ch_pupils ch_rule ch_ranks ch_eligible ch_eligibleAndRight ch_cells s1_seed s1_questions s1_rightOnes s1_wrongOnes s1_isKept s1_dares s1_times s2_seed s2_questions s2_rightOnes s2_wrongOnes s2_isKept s2_dares s2_times ta_size ta_hands ta_ones ta_cells tr_waited tr_size tr_hands m_readMany m_pupils m_mood m_length m_at m_faultAt m_drawn m_questions m_rights m_wrongs m_tapes m_trials m_read m_pupil m_dares m_times m_text m_joint m_others m_tapeHands m_tapeTaken m_trialHands m_trialWaited m_isKept m_keptDares m_keptTimes m_keptDrawn m_keptLesson (xs (nI i + (1 : Int32)).toNatClampNeg)  hR
  refine lv_aload_n hx hb dL_law_323 rfl (lv_at hl 1 rfl) ?_
  refine lv_aload_n hx hb dL_law_324 rfl (lv_at hl 0 rfl) ?_
  refine lv_iload_n hx hb dL_law_325 rfl (lv_at hl 3 rfl) ?_
  refine lv_iconst (v := (1 : Int32)) hx hb dL_law_326 (by decide) ?_
  refine lv_iadd hx hb dL_law_327 ?_
  refine va_sld hx hb hX hbl hbA hS i1 dL_law_328 ?_
  refine wr_i (runV (As := [.int (xs (nI i + (1 : Int32)).toNatClampNeg)]) (rest := []) X cq_X8_mood lk_L_38 (c_X8_mood l D cI cJ cZ a ws0 (fun q : Nat => s.heap.size ≤ q) ro_pupils ro_mood (xs (nI i + (1 : Int32)).toNatClampNeg) u hu h0 h3 hD) rfl rfl ⟨Nat.le_of_ble_eq_true rfl, Nat.le_of_ble_eq_true rfl⟩ hP h0 rfl rfl hl.1 rfl (Nat.le_of_ble_eq_true rfl) dL_law_329 ⟨Nat.le_of_ble_eq_true rfl, Nat.le_of_ble_eq_true rfl⟩) hS (fun w1 H locs hP hD hk hB hS => ?_)
  have h3 : w1[3]? = some (a 3, .inr (3, [.ref (a 4), .ref (a 5), .ref (a 6), .ref (a 7), .ref (a 8), .ref (a 9), .ref (a 10), .int ro_pupils, .int u.2])) := hB
  have h0 := (hk 0 (by decide)).trans h0
  have h1 := (hk 1 (by decide)).trans h1
  have h2 := (hk 2 (by decide)).trans h2
  have h4 := (hk 4 (by decide)).trans h4
  have h5 := (hk 5 (by decide)).trans h5
  have h6 := (hk 6 (by decide)).trans h6
  have h7 := (hk 7 (by decide)).trans h7
  have h8 := (hk 8 (by decide)).trans h8
  have h9 := (hk 9 (by decide)).trans h9
  have h10 := (hk 10 (by decide)).trans h10
  have h11 := (hk 11 (by decide)).trans h11
  have h12 := (hk 12 (by decide)).trans h12
  have h13 := (hk 13 (by decide)).trans h13
  have h14 := (hk 14 (by decide)).trans h14
  have h15 := (hk 15 (by decide)).trans h15
  have h16 := (hk 16 (by decide)).trans h16
  have h17 := (hk 17 (by decide)).trans h17
  have h18 := (hk 18 (by decide)).trans h18
  have h19 := (hk 19 (by decide)).trans h19
  have h20 := (hk 20 (by decide)).trans h20
  have h21 := (hk 21 (by decide)).trans h21
  have h22 := (hk 22 (by decide)).trans h22
  have h23 := (hk 23 (by decide)).trans h23
  have h24 := (hk 24 (by decide)).trans h24
  have h25 := (hk 25 (by decide)).trans h25
  have h26 := (hk 26 (by decide)).trans h26
  have h27 := (hk 27 (by decide)).trans h27
  have h28 := (hk 28 (by decide)).trans h28
  have h29 := (hk 29 (by decide)).trans h29
  have h30 := (hk 30 (by decide)).trans h30
  have h31 := (hk 31 (by decide)).trans h31
  have h32 := (hk 32 (by decide)).trans h32
  have h33 := (hk 33 (by decide)).trans h33
  have h34 := (hk 34 (by decide)).trans h34
  have h35 := (hk 35 (by decide)).trans h35
  have h36 := (hk 36 (by decide)).trans h36
  have h37 := (hk 37 (by decide)).trans h37
  have h38 := (hk 38 (by decide)).trans h38
  have h39 := (hk 39 (by decide)).trans h39
  have h40 := (hk 40 (by decide)).trans h40
  have h41 := (hk 41 (by decide)).trans h41
  have h42 := (hk 42 (by decide)).trans h42
  have h43 := (hk 43 (by decide)).trans h43
  have h44 := (hk 44 (by decide)).trans h44
  have h45 := (hk 45 (by decide)).trans h45
  have h46 := (hk 46 (by decide)).trans h46
  have h47 := (hk 47 (by decide)).trans h47
  have h48 := (hk 48 (by decide)).trans h48
  have h49 := (hk 49 (by decide)).trans h49
  have h50 := (hk 50 (by decide)).trans h50
  have h51 := (hk 51 (by decide)).trans h51
  refine lv_aload_n hx hb dL_law_332 rfl (lv_at hl 2 rfl) ?_
  refine lv_aload_n hx hb dL_law_333 rfl (lv_at hl 0 rfl) ?_
  refine lv_iload_n hx hb dL_law_334 rfl (lv_at hl 3 rfl) ?_
  refine lv_iconst (v := (1 : Int32)) hx hb dL_law_335 (by decide) ?_
  refine lv_iadd hx hb dL_law_336 ?_
  refine va_sld hx hb hX hbl hbA hS i1 dL_law_337 ?_
  refine wr_i (runV (As := [.int (xs (nI i + (1 : Int32)).toNatClampNeg)]) (rest := [.int u.1]) X cq_X9_mood lk_L_42 (c_X9_mood l D cI cJ cZ a w1 (fun q : Nat => s.heap.size ≤ q) m_readMany m_pupils m_mood m_length m_at m_faultAt m_drawn m_questions m_rights m_wrongs m_tapes m_trials (xs (nI i + (1 : Int32)).toNatClampNeg) v hv h35 hD) rfl rfl ⟨Nat.le_of_ble_eq_true rfl, Nat.le_of_ble_eq_true rfl⟩ hP h35 rfl rfl hl.1 rfl (Nat.le_of_ble_eq_true rfl) dL_law_338 ⟨Nat.le_of_ble_eq_true rfl, Nat.le_of_ble_eq_true rfl⟩) hS (fun w2 H locs hP hD hk hB hS => ?_)
  have h35 : w2[35]? = some (a 35, .inr (9, [.ref (a 36), .int m_readMany, .ref (a 37), .int m_pupils, .ref (a 38), .ref (a 39), .int v.2, .ref (a 40), .int m_length, .int m_at, .int m_faultAt, .ref (a 41), .ref (a 42), .long m_drawn, .int m_questions, .int m_rights, .int m_wrongs, .int m_tapes, .ref (a 43), .ref (a 44), .int m_trials, .ref (a 45), .ref (a 46), .ref (a 47), .ref (a 48), .ref (a 49), .ref (a 50), .ref (a 51)])) := hB
  have h0 := (hk 0 (by decide)).trans h0
  have h1 := (hk 1 (by decide)).trans h1
  have h2 := (hk 2 (by decide)).trans h2
  have h3 := (hk 3 (by decide)).trans h3
  have h4 := (hk 4 (by decide)).trans h4
  have h5 := (hk 5 (by decide)).trans h5
  have h6 := (hk 6 (by decide)).trans h6
  have h7 := (hk 7 (by decide)).trans h7
  have h8 := (hk 8 (by decide)).trans h8
  have h9 := (hk 9 (by decide)).trans h9
  have h10 := (hk 10 (by decide)).trans h10
  have h11 := (hk 11 (by decide)).trans h11
  have h12 := (hk 12 (by decide)).trans h12
  have h13 := (hk 13 (by decide)).trans h13
  have h14 := (hk 14 (by decide)).trans h14
  have h15 := (hk 15 (by decide)).trans h15
  have h16 := (hk 16 (by decide)).trans h16
  have h17 := (hk 17 (by decide)).trans h17
  have h18 := (hk 18 (by decide)).trans h18
  have h19 := (hk 19 (by decide)).trans h19
  have h20 := (hk 20 (by decide)).trans h20
  have h21 := (hk 21 (by decide)).trans h21
  have h22 := (hk 22 (by decide)).trans h22
  have h23 := (hk 23 (by decide)).trans h23
  have h24 := (hk 24 (by decide)).trans h24
  have h25 := (hk 25 (by decide)).trans h25
  have h26 := (hk 26 (by decide)).trans h26
  have h27 := (hk 27 (by decide)).trans h27
  have h28 := (hk 28 (by decide)).trans h28
  have h29 := (hk 29 (by decide)).trans h29
  have h30 := (hk 30 (by decide)).trans h30
  have h31 := (hk 31 (by decide)).trans h31
  have h32 := (hk 32 (by decide)).trans h32
  have h33 := (hk 33 (by decide)).trans h33
  have h34 := (hk 34 (by decide)).trans h34
  have h36 := (hk 36 (by decide)).trans h36
  have h37 := (hk 37 (by decide)).trans h37
  have h38 := (hk 38 (by decide)).trans h38
  have h39 := (hk 39 (by decide)).trans h39
  have h40 := (hk 40 (by decide)).trans h40
  have h41 := (hk 41 (by decide)).trans h41
  have h42 := (hk 42 (by decide)).trans h42
  have h43 := (hk 43 (by decide)).trans h43
  have h44 := (hk 44 (by decide)).trans h44
  have h45 := (hk 45 (by decide)).trans h45
  have h46 := (hk 46 (by decide)).trans h46
  have h47 := (hk 47 (by decide)).trans h47
  have h48 := (hk 48 (by decide)).trans h48
  have h49 := (hk 49 (by decide)).trans h49
  have h50 := (hk 50 (by decide)).trans h50
  have h51 := (hk 51 (by decide)).trans h51
  refine lv_icmp_eq (tgt := 1535) hx hb dL_law_341 (by decide) (fun _ => ?_) (fun q => absurd he q)
  exact KK tx_length tx_bytes ro_pupils u.2 ro_letters ro_rows ro_columns ro_tenths ro_needs ro_toldDares le_seed le_questions le_rightOnes le_wrongOnes le_isKept le_dares le_times ha_cells ch_pupils ch_rule ch_ranks ch_eligible ch_eligibleAndRight ch_cells s1_seed s1_questions s1_rightOnes s1_wrongOnes s1_isKept s1_dares s1_times s2_seed s2_questions s2_rightOnes s2_wrongOnes s2_isKept s2_dares s2_times ta_size ta_hands ta_ones ta_cells tr_waited tr_size tr_hands m_readMany m_pupils v.2 m_length m_at m_faultAt m_drawn m_questions m_rights m_wrongs m_tapes m_trials m_read m_pupil m_dares m_times m_text m_joint m_others m_tapeHands m_tapeTaken m_trialHands m_trialWaited m_isKept m_keptDares m_keptTimes m_keptDrawn m_keptLesson hR2 _ _ _ hP hD hS ⟨h0, h1, h2, h3, h4, h5, h6, h7, h8, h9, h10, h11, h12, h13, h14, h15, h16, h17, h18, h19, h20, h21, h22, h23, h24, h25, h26, h27, h28, h29, h30, h31, h32, h33, h34, h35, h36, h37, h38, h39, h40, h41, h42, h43, h44, h45, h46, h47, h48, h49, h50, h51⟩ ls hl
set_option maxHeartbeats 4000000 in
set_option maxRecDepth 100000 in
theorem case_6 {p : Program} {l : Launch} {e : Env} {s : State} {m : MethodId} {below : List Frame} {meth : Method} {c : Code} {D : va_G} {cI cJ cZ : ClassId} {a : Nat → Nat} {b L : Nat} {xs : Nat → Int32} (C0 : lw_At p s m meth c b L xs) (X : Cx yL_law code 4 ret D cI cJ cZ p s m #[Value.ref b] meth c) (i : Nat) (hi : i + 5 < L) (hL : L ≤ 3072) (tx_length : Int32) (tx_bytes : Nat → Int32) (ro_pupils : Int32) (ro_mood : Int32) (ro_letters : Nat → Int32) (ro_rows : Nat → Int32) (ro_columns : Nat → Int32) (ro_tenths : Nat → Int32) (ro_needs : Nat → Int32) (ro_toldDares : Nat → Int32) (le_seed : Int64) (le_questions : Int32) (le_rightOnes : Int32) (le_wrongOnes : Int32) (le_isKept : Int32) (le_dares : Nat → Int32) (le_times : Nat → Int32) (ha_cells : Nat → Int64) (ch_pupils : Int32) (ch_rule : Int32) (ch_ranks : Nat → Int32) (ch_eligible : Nat → Int32) (ch_eligibleAndRight : Nat → Int32) (ch_cells : Nat → Int64) (s1_seed : Int64) (s1_questions : Int32) (s1_rightOnes : Int32) (s1_wrongOnes : Int32) (s1_isKept : Int32) (s1_dares : Nat → Int32) (s1_times : Nat → Int32) (s2_seed : Int64) (s2_questions : Int32) (s2_rightOnes : Int32) (s2_wrongOnes : Int32) (s2_isKept : Int32) (s2_dares : Nat → Int32) (s2_times : Nat → Int32) (ta_size : Int32) (ta_hands : Nat → Int32) (ta_ones : Nat → Int32) (ta_cells : Nat → Int64) (tr_waited : Int32) (tr_size : Int32) (tr_hands : Nat → Int32) (m_readMany : Int32) (m_pupils : Int32) (m_mood : Int32) (m_length : Int32) (m_at : Int32) (m_faultAt : Int32) (m_drawn : Int64) (m_questions : Int32) (m_rights : Int32) (m_wrongs : Int32) (m_tapes : Int32) (m_trials : Int32) (m_read : Nat → Int32) (m_pupil : Nat → Int32) (m_dares : Nat → Int32) (m_times : Nat → Int32) (m_text : Nat → Int32) (m_joint : Nat → Int64) (m_others : Nat → Int64) (m_tapeHands : Nat → Int32) (m_tapeTaken : Nat → Int32) (m_trialHands : Nat → Int32) (m_trialWaited : Nat → Int32) (m_isKept : Nat → Int32) (m_keptDares : Nat → Int32) (m_keptTimes : Nat → Int32) (m_keptDrawn : Nat → Int64) (m_keptLesson : Nat → Int32) (hR : Rel i tx_length tx_bytes ro_pupils ro_mood ro_letters ro_rows ro_columns ro_tenths ro_needs ro_toldDares le_seed le_questions le_rightOnes le_wrongOnes le_dares le_times s1_seed s1_questions s1_rightOnes s1_wrongOnes s1_isKept s1_dares s1_times s2_seed s2_questions s2_rightOnes s2_wrongOnes s2_isKept s2_dares s2_times ta_size ta_hands ta_ones tr_waited tr_size tr_hands m_pupils m_mood m_length m_drawn m_questions m_rights m_wrongs m_tapes m_trials m_pupil m_dares m_times m_text m_tapeHands m_tapeTaken m_trialHands m_trialWaited m_isKept m_keptDares m_keptTimes m_keptDrawn m_keptLesson) (ws0 : va_W) (H : Heap) (locs : List Loc) (hP : va_P D vwCl ws0 H) (hD : va_D (fun q : Nat => s.heap.size ≤ q) ws0) (hS : va_S (fun q : Nat => s.heap.size ≤ q) s.heap H locs) (hw : wAll a cI cJ cZ ws0 tx_length tx_bytes ro_pupils ro_mood ro_letters ro_rows ro_columns ro_tenths ro_needs ro_toldDares le_seed le_questions le_rightOnes le_wrongOnes le_isKept le_dares le_times ha_cells ch_pupils ch_rule ch_ranks ch_eligible ch_eligibleAndRight ch_cells s1_seed s1_questions s1_rightOnes s1_wrongOnes s1_isKept s1_dares s1_times s2_seed s2_questions s2_rightOnes s2_wrongOnes s2_isKept s2_dares s2_times ta_size ta_hands ta_ones ta_cells tr_waited tr_size tr_hands m_readMany m_pupils m_mood m_length m_at m_faultAt m_drawn m_questions m_rights m_wrongs m_tapes m_trials m_read m_pupil m_dares m_times m_text m_joint m_others m_tapeHands m_tapeTaken m_trialHands m_trialWaited m_isKept m_keptDares m_keptTimes m_keptDrawn m_keptLesson) (ls : Array Slot) (hl : lv_has ls 4 [(0, .ref b), (1, .ref (a 0)), (2, .ref (a 35)), (3, .int (nI i))]) (KK : ∀ (tx_length : Int32) (tx_bytes : Nat → Int32) (ro_pupils : Int32) (ro_mood : Int32) (ro_letters : Nat → Int32) (ro_rows : Nat → Int32) (ro_columns : Nat → Int32) (ro_tenths : Nat → Int32) (ro_needs : Nat → Int32) (ro_toldDares : Nat → Int32) (le_seed : Int64) (le_questions : Int32) (le_rightOnes : Int32) (le_wrongOnes : Int32) (le_isKept : Int32) (le_dares : Nat → Int32) (le_times : Nat → Int32) (ha_cells : Nat → Int64) (ch_pupils : Int32) (ch_rule : Int32) (ch_ranks : Nat → Int32) (ch_eligible : Nat → Int32) (ch_eligibleAndRight : Nat → Int32) (ch_cells : Nat → Int64) (s1_seed : Int64) (s1_questions : Int32) (s1_rightOnes : Int32) (s1_wrongOnes : Int32) (s1_isKept : Int32) (s1_dares : Nat → Int32) (s1_times : Nat → Int32) (s2_seed : Int64) (s2_questions : Int32) (s2_rightOnes : Int32) (s2_wrongOnes : Int32) (s2_isKept : Int32) (s2_dares : Nat → Int32) (s2_times : Nat → Int32) (ta_size : Int32) (ta_hands : Nat → Int32) (ta_ones : Nat → Int32) (ta_cells : Nat → Int64) (tr_waited : Int32) (tr_size : Int32) (tr_hands : Nat → Int32) (m_readMany : Int32) (m_pupils : Int32) (m_mood : Int32) (m_length : Int32) (m_at : Int32) (m_faultAt : Int32) (m_drawn : Int64) (m_questions : Int32) (m_rights : Int32) (m_wrongs : Int32) (m_tapes : Int32) (m_trials : Int32) (m_read : Nat → Int32) (m_pupil : Nat → Int32) (m_dares : Nat → Int32) (m_times : Nat → Int32) (m_text : Nat → Int32) (m_joint : Nat → Int64) (m_others : Nat → Int64) (m_tapeHands : Nat → Int32) (m_tapeTaken : Nat → Int32) (m_trialHands : Nat → Int32) (m_trialWaited : Nat → Int32) (m_isKept : Nat → Int32) (m_keptDares : Nat → Int32) (m_keptTimes : Nat → Int32) (m_keptDrawn : Nat → Int64) (m_keptLesson : Nat → Int32), Rel (i + 1) tx_length tx_bytes ro_pupils ro_mood ro_letters ro_rows ro_columns ro_tenths ro_needs ro_toldDares le_seed le_questions le_rightOnes le_wrongOnes le_dares le_times s1_seed s1_questions s1_rightOnes s1_wrongOnes s1_isKept s1_dares s1_times s2_seed s2_questions s2_rightOnes s2_wrongOnes s2_isKept s2_dares s2_times ta_size ta_hands ta_ones tr_waited tr_size tr_hands m_pupils m_mood m_length m_drawn m_questions m_rights m_wrongs m_tapes m_trials m_pupil m_dares m_times m_text m_tapeHands m_tapeTaken m_trialHands m_trialWaited m_isKept m_keptDares m_keptTimes m_keptDrawn m_keptLesson → ∀ (w : va_W) (H : Heap) (locs : List Loc), va_P D vwCl w H → va_D (fun q : Nat => s.heap.size ≤ q) w → va_S (fun q : Nat => s.heap.size ≤ q) s.heap H locs → wAll a cI cJ cZ w tx_length tx_bytes ro_pupils ro_mood ro_letters ro_rows ro_columns ro_tenths ro_needs ro_toldDares le_seed le_questions le_rightOnes le_wrongOnes le_isKept le_dares le_times ha_cells ch_pupils ch_rule ch_ranks ch_eligible ch_eligibleAndRight ch_cells s1_seed s1_questions s1_rightOnes s1_wrongOnes s1_isKept s1_dares s1_times s2_seed s2_questions s2_rightOnes s2_wrongOnes s2_isKept s2_dares s2_times ta_size ta_hands ta_ones ta_cells tr_waited tr_size tr_hands m_readMany m_pupils m_mood m_length m_at m_faultAt m_drawn m_questions m_rights m_wrongs m_tapes m_trials m_read m_pupil m_dares m_times m_text m_joint m_others m_tapeHands m_tapeTaken m_trialHands m_trialWaited m_isKept m_keptDares m_keptTimes m_keptDrawn m_keptLesson → ∀ ls : Array Slot, lv_has ls 4 [(0, .ref b), (1, .ref (a 0)), (2, .ref (a 35)), (3, .int (nI i))] → W p l e room_1 s m #[Value.ref b] below meth c H locs 52 1402 (lw_Z below #[Value.ref b] s) (F0 m 1535 ls [])) : W p l e room_1 s m #[Value.ref b] below meth c H locs 52 1402 (lw_Z below #[Value.ref b] s) (F0 m 346 ls []) := by
  obtain ⟨-, -, -, -, -, -, hX, hbl, -, -⟩ := C0
  obtain ⟨hx, hb, hr, hml, hown, hts, hlk, hK, hN⟩ := id X
  have hown : s.vm.findClass RL = some m.cls := hown
  have hbA : ¬ (fun q : Nat => s.heap.size ≤ q) b := Nat.not_le.mpr hbl
  obtain ⟨h0, h1, h2, h3, h4, h5, h6, h7, h8, h9, h10, h11, h12, h13, h14, h15, h16, h17, h18, h19, h20, h21, h22, h23, h24, h25, h26, h27, h28, h29, h30, h31, h32, h33, h34, h35, h36, h37, h38, h39, h40, h41, h42, h43, h44, h45, h46, h47, h48, h49, h50, h51⟩ := hw
  have i1 : vp_in (nI i + (1 : Int32)) L := by rw [show (1 : Int32) = nI 1 from rfl, nI_add]; exact vp_in_nI (by omega) (by omega)
  have i2 : vp_in (nI i + (2 : Int32)) L := by rw [show (2 : Int32) = nI 2 from rfl, nI_add]; exact vp_in_nI (by omega) (by omega)
  have i3 : vp_in (nI i + (3 : Int32)) L := by rw [show (3 : Int32) = nI 3 from rfl, nI_add]; exact vp_in_nI (by omega) (by omega)
  have i4 : vp_in (nI i + (4 : Int32)) L := by rw [show (4 : Int32) = nI 4 from rfl, nI_add]; exact vp_in_nI (by omega) (by omega)
  have i5 : vp_in (nI i + (5 : Int32)) L := by rw [show (5 : Int32) = nI 5 from rfl, nI_add]; exact vp_in_nI (by omega) (by omega)
  obtain ⟨u, v, hu, hv, he, hR2⟩ := P_up i (by omega) tx_length tx_bytes ro_pupils ro_mood ro_letters ro_rows ro_columns ro_tenths ro_needs ro_toldDares le_seed le_questions le_rightOnes le_wrongOnes le_isKept le_dares le_times ha_cells ch_pupils ch_rule ch_ranks ch_eligible ch_eligibleAndRight ch_cells s1_seed s1_questions s1_rightOnes s1_wrongOnes s1_isKept s1_dares s1_times s2_seed s2_questions s2_rightOnes s2_wrongOnes s2_isKept s2_dares s2_times ta_size ta_hands ta_ones ta_cells tr_waited tr_size tr_hands m_readMany m_pupils m_mood m_length m_at m_faultAt m_drawn m_questions m_rights m_wrongs m_tapes m_trials m_read m_pupil m_dares m_times m_text m_joint m_others m_tapeHands m_tapeTaken m_trialHands m_trialWaited m_isKept m_keptDares m_keptTimes m_keptDrawn m_keptLesson (xs (nI i + (1 : Int32)).toNatClampNeg) (xs (nI i + (2 : Int32)).toNatClampNeg)  hR
  refine lv_aload_n hx hb dL_law_346 rfl (lv_at hl 1 rfl) ?_
  refine lv_aload_n hx hb dL_law_347 rfl (lv_at hl 0 rfl) ?_
  refine lv_iload_n hx hb dL_law_348 rfl (lv_at hl 3 rfl) ?_
  refine lv_iconst (v := (1 : Int32)) hx hb dL_law_349 (by decide) ?_
  refine lv_iadd hx hb dL_law_350 ?_
  refine va_sld hx hb hX hbl hbA hS i1 dL_law_351 ?_
  refine lv_aload_n hx hb dL_law_352 rfl (lv_at hl 0 rfl) ?_
  refine lv_iload_n hx hb dL_law_353 rfl (lv_at hl 3 rfl) ?_
  refine lv_iconst (v := (2 : Int32)) hx hb dL_law_354 (by decide) ?_
  refine lv_iadd hx hb dL_law_355 ?_
  refine va_sld hx hb hX hbl hbA hS i2 dL_law_356 ?_
  refine rd_i (runV (As := [.int (xs (nI i + (1 : Int32)).toNatClampNeg), .int (xs (nI i + (2 : Int32)).toNatClampNeg)]) (rest := []) X cq_X8_up lk_L_43 (c_X8_up l D cI cJ cZ a ws0 ro_pupils ro_mood ro_letters ro_tenths ro_needs le_seed le_questions le_rightOnes le_wrongOnes le_isKept le_dares (xs (nI i + (1 : Int32)).toNatClampNeg) (xs (nI i + (2 : Int32)).toNatClampNeg) u hu h0 h3 h4 h7 h8 h10 h11) rfl rfl ⟨Nat.le_of_ble_eq_true rfl, Nat.le_of_ble_eq_true rfl⟩ hP h0 rfl rfl hl.1 rfl (Nat.le_of_ble_eq_true rfl) dL_law_357 ⟨Nat.le_of_ble_eq_true rfl, Nat.le_of_ble_eq_true rfl⟩) ?_
  refine lv_aload_n hx hb dL_law_360 rfl (lv_at hl 2 rfl) ?_
  refine lv_aload_n hx hb dL_law_361 rfl (lv_at hl 0 rfl) ?_
  refine lv_iload_n hx hb dL_law_362 rfl (lv_at hl 3 rfl) ?_
  refine lv_iconst (v := (1 : Int32)) hx hb dL_law_363 (by decide) ?_
  refine lv_iadd hx hb dL_law_364 ?_
  refine va_sld hx hb hX hbl hbA hS i1 dL_law_365 ?_
  refine lv_aload_n hx hb dL_law_366 rfl (lv_at hl 0 rfl) ?_
  refine lv_iload_n hx hb dL_law_367 rfl (lv_at hl 3 rfl) ?_
  refine lv_iconst (v := (2 : Int32)) hx hb dL_law_368 (by decide) ?_
  refine lv_iadd hx hb dL_law_369 ?_
  refine va_sld hx hb hX hbl hbA hS i2 dL_law_370 ?_
  refine rd_i (runV (As := [.int (xs (nI i + (1 : Int32)).toNatClampNeg), .int (xs (nI i + (2 : Int32)).toNatClampNeg)]) (rest := [.int u]) X cq_X9_up lk_L_46 (c_X9_up l D cI cJ cZ a ws0 m_readMany m_pupils m_mood m_length m_at m_faultAt m_drawn m_questions m_rights m_wrongs m_tapes m_trials m_pupil m_dares (xs (nI i + (1 : Int32)).toNatClampNeg) (xs (nI i + (2 : Int32)).toNatClampNeg) v hv h35 h37 h38) rfl rfl ⟨Nat.le_of_ble_eq_true rfl, Nat.le_of_ble_eq_true rfl⟩ hP h35 rfl rfl hl.1 rfl (Nat.le_of_ble_eq_true rfl) dL_law_371 ⟨Nat.le_of_ble_eq_true rfl, Nat.le_of_ble_eq_true rfl⟩) ?_
  refine lv_icmp_eq (tgt := 1535) hx hb dL_law_374 (by decide) (fun _ => ?_) (fun q => absurd he q)
  exact KK tx_length tx_bytes ro_pupils ro_mood ro_letters ro_rows ro_columns ro_tenths ro_needs ro_toldDares le_seed le_questions le_rightOnes le_wrongOnes le_isKept le_dares le_times ha_cells ch_pupils ch_rule ch_ranks ch_eligible ch_eligibleAndRight ch_cells s1_seed s1_questions s1_rightOnes s1_wrongOnes s1_isKept s1_dares s1_times s2_seed s2_questions s2_rightOnes s2_wrongOnes s2_isKept s2_dares s2_times ta_size ta_hands ta_ones ta_cells tr_waited tr_size tr_hands m_readMany m_pupils m_mood m_length m_at m_faultAt m_drawn m_questions m_rights m_wrongs m_tapes m_trials m_read m_pupil m_dares m_times m_text m_joint m_others m_tapeHands m_tapeTaken m_trialHands m_trialWaited m_isKept m_keptDares m_keptTimes m_keptDrawn m_keptLesson hR2 _ _ _ hP hD hS ⟨h0, h1, h2, h3, h4, h5, h6, h7, h8, h9, h10, h11, h12, h13, h14, h15, h16, h17, h18, h19, h20, h21, h22, h23, h24, h25, h26, h27, h28, h29, h30, h31, h32, h33, h34, h35, h36, h37, h38, h39, h40, h41, h42, h43, h44, h45, h46, h47, h48, h49, h50, h51⟩ ls hl
set_option maxHeartbeats 4000000 in
set_option maxRecDepth 100000 in
theorem case_7 {p : Program} {l : Launch} {e : Env} {s : State} {m : MethodId} {below : List Frame} {meth : Method} {c : Code} {D : va_G} {cI cJ cZ : ClassId} {a : Nat → Nat} {b L : Nat} {xs : Nat → Int32} (C0 : lw_At p s m meth c b L xs) (X : Cx yL_law code 4 ret D cI cJ cZ p s m #[Value.ref b] meth c) (i : Nat) (hi : i + 5 < L) (hL : L ≤ 3072) (tx_length : Int32) (tx_bytes : Nat → Int32) (ro_pupils : Int32) (ro_mood : Int32) (ro_letters : Nat → Int32) (ro_rows : Nat → Int32) (ro_columns : Nat → Int32) (ro_tenths : Nat → Int32) (ro_needs : Nat → Int32) (ro_toldDares : Nat → Int32) (le_seed : Int64) (le_questions : Int32) (le_rightOnes : Int32) (le_wrongOnes : Int32) (le_isKept : Int32) (le_dares : Nat → Int32) (le_times : Nat → Int32) (ha_cells : Nat → Int64) (ch_pupils : Int32) (ch_rule : Int32) (ch_ranks : Nat → Int32) (ch_eligible : Nat → Int32) (ch_eligibleAndRight : Nat → Int32) (ch_cells : Nat → Int64) (s1_seed : Int64) (s1_questions : Int32) (s1_rightOnes : Int32) (s1_wrongOnes : Int32) (s1_isKept : Int32) (s1_dares : Nat → Int32) (s1_times : Nat → Int32) (s2_seed : Int64) (s2_questions : Int32) (s2_rightOnes : Int32) (s2_wrongOnes : Int32) (s2_isKept : Int32) (s2_dares : Nat → Int32) (s2_times : Nat → Int32) (ta_size : Int32) (ta_hands : Nat → Int32) (ta_ones : Nat → Int32) (ta_cells : Nat → Int64) (tr_waited : Int32) (tr_size : Int32) (tr_hands : Nat → Int32) (m_readMany : Int32) (m_pupils : Int32) (m_mood : Int32) (m_length : Int32) (m_at : Int32) (m_faultAt : Int32) (m_drawn : Int64) (m_questions : Int32) (m_rights : Int32) (m_wrongs : Int32) (m_tapes : Int32) (m_trials : Int32) (m_read : Nat → Int32) (m_pupil : Nat → Int32) (m_dares : Nat → Int32) (m_times : Nat → Int32) (m_text : Nat → Int32) (m_joint : Nat → Int64) (m_others : Nat → Int64) (m_tapeHands : Nat → Int32) (m_tapeTaken : Nat → Int32) (m_trialHands : Nat → Int32) (m_trialWaited : Nat → Int32) (m_isKept : Nat → Int32) (m_keptDares : Nat → Int32) (m_keptTimes : Nat → Int32) (m_keptDrawn : Nat → Int64) (m_keptLesson : Nat → Int32) (hR : Rel i tx_length tx_bytes ro_pupils ro_mood ro_letters ro_rows ro_columns ro_tenths ro_needs ro_toldDares le_seed le_questions le_rightOnes le_wrongOnes le_dares le_times s1_seed s1_questions s1_rightOnes s1_wrongOnes s1_isKept s1_dares s1_times s2_seed s2_questions s2_rightOnes s2_wrongOnes s2_isKept s2_dares s2_times ta_size ta_hands ta_ones tr_waited tr_size tr_hands m_pupils m_mood m_length m_drawn m_questions m_rights m_wrongs m_tapes m_trials m_pupil m_dares m_times m_text m_tapeHands m_tapeTaken m_trialHands m_trialWaited m_isKept m_keptDares m_keptTimes m_keptDrawn m_keptLesson) (ws0 : va_W) (H : Heap) (locs : List Loc) (hP : va_P D vwCl ws0 H) (hD : va_D (fun q : Nat => s.heap.size ≤ q) ws0) (hS : va_S (fun q : Nat => s.heap.size ≤ q) s.heap H locs) (hw : wAll a cI cJ cZ ws0 tx_length tx_bytes ro_pupils ro_mood ro_letters ro_rows ro_columns ro_tenths ro_needs ro_toldDares le_seed le_questions le_rightOnes le_wrongOnes le_isKept le_dares le_times ha_cells ch_pupils ch_rule ch_ranks ch_eligible ch_eligibleAndRight ch_cells s1_seed s1_questions s1_rightOnes s1_wrongOnes s1_isKept s1_dares s1_times s2_seed s2_questions s2_rightOnes s2_wrongOnes s2_isKept s2_dares s2_times ta_size ta_hands ta_ones ta_cells tr_waited tr_size tr_hands m_readMany m_pupils m_mood m_length m_at m_faultAt m_drawn m_questions m_rights m_wrongs m_tapes m_trials m_read m_pupil m_dares m_times m_text m_joint m_others m_tapeHands m_tapeTaken m_trialHands m_trialWaited m_isKept m_keptDares m_keptTimes m_keptDrawn m_keptLesson) (ls : Array Slot) (hl : lv_has ls 4 [(0, .ref b), (1, .ref (a 0)), (2, .ref (a 35)), (3, .int (nI i))]) (KK : ∀ (tx_length : Int32) (tx_bytes : Nat → Int32) (ro_pupils : Int32) (ro_mood : Int32) (ro_letters : Nat → Int32) (ro_rows : Nat → Int32) (ro_columns : Nat → Int32) (ro_tenths : Nat → Int32) (ro_needs : Nat → Int32) (ro_toldDares : Nat → Int32) (le_seed : Int64) (le_questions : Int32) (le_rightOnes : Int32) (le_wrongOnes : Int32) (le_isKept : Int32) (le_dares : Nat → Int32) (le_times : Nat → Int32) (ha_cells : Nat → Int64) (ch_pupils : Int32) (ch_rule : Int32) (ch_ranks : Nat → Int32) (ch_eligible : Nat → Int32) (ch_eligibleAndRight : Nat → Int32) (ch_cells : Nat → Int64) (s1_seed : Int64) (s1_questions : Int32) (s1_rightOnes : Int32) (s1_wrongOnes : Int32) (s1_isKept : Int32) (s1_dares : Nat → Int32) (s1_times : Nat → Int32) (s2_seed : Int64) (s2_questions : Int32) (s2_rightOnes : Int32) (s2_wrongOnes : Int32) (s2_isKept : Int32) (s2_dares : Nat → Int32) (s2_times : Nat → Int32) (ta_size : Int32) (ta_hands : Nat → Int32) (ta_ones : Nat → Int32) (ta_cells : Nat → Int64) (tr_waited : Int32) (tr_size : Int32) (tr_hands : Nat → Int32) (m_readMany : Int32) (m_pupils : Int32) (m_mood : Int32) (m_length : Int32) (m_at : Int32) (m_faultAt : Int32) (m_drawn : Int64) (m_questions : Int32) (m_rights : Int32) (m_wrongs : Int32) (m_tapes : Int32) (m_trials : Int32) (m_read : Nat → Int32) (m_pupil : Nat → Int32) (m_dares : Nat → Int32) (m_times : Nat → Int32) (m_text : Nat → Int32) (m_joint : Nat → Int64) (m_others : Nat → Int64) (m_tapeHands : Nat → Int32) (m_tapeTaken : Nat → Int32) (m_trialHands : Nat → Int32) (m_trialWaited : Nat → Int32) (m_isKept : Nat → Int32) (m_keptDares : Nat → Int32) (m_keptTimes : Nat → Int32) (m_keptDrawn : Nat → Int64) (m_keptLesson : Nat → Int32), Rel (i + 1) tx_length tx_bytes ro_pupils ro_mood ro_letters ro_rows ro_columns ro_tenths ro_needs ro_toldDares le_seed le_questions le_rightOnes le_wrongOnes le_dares le_times s1_seed s1_questions s1_rightOnes s1_wrongOnes s1_isKept s1_dares s1_times s2_seed s2_questions s2_rightOnes s2_wrongOnes s2_isKept s2_dares s2_times ta_size ta_hands ta_ones tr_waited tr_size tr_hands m_pupils m_mood m_length m_drawn m_questions m_rights m_wrongs m_tapes m_trials m_pupil m_dares m_times m_text m_tapeHands m_tapeTaken m_trialHands m_trialWaited m_isKept m_keptDares m_keptTimes m_keptDrawn m_keptLesson → ∀ (w : va_W) (H : Heap) (locs : List Loc), va_P D vwCl w H → va_D (fun q : Nat => s.heap.size ≤ q) w → va_S (fun q : Nat => s.heap.size ≤ q) s.heap H locs → wAll a cI cJ cZ w tx_length tx_bytes ro_pupils ro_mood ro_letters ro_rows ro_columns ro_tenths ro_needs ro_toldDares le_seed le_questions le_rightOnes le_wrongOnes le_isKept le_dares le_times ha_cells ch_pupils ch_rule ch_ranks ch_eligible ch_eligibleAndRight ch_cells s1_seed s1_questions s1_rightOnes s1_wrongOnes s1_isKept s1_dares s1_times s2_seed s2_questions s2_rightOnes s2_wrongOnes s2_isKept s2_dares s2_times ta_size ta_hands ta_ones ta_cells tr_waited tr_size tr_hands m_readMany m_pupils m_mood m_length m_at m_faultAt m_drawn m_questions m_rights m_wrongs m_tapes m_trials m_read m_pupil m_dares m_times m_text m_joint m_others m_tapeHands m_tapeTaken m_trialHands m_trialWaited m_isKept m_keptDares m_keptTimes m_keptDrawn m_keptLesson → ∀ ls : Array Slot, lv_has ls 4 [(0, .ref b), (1, .ref (a 0)), (2, .ref (a 35)), (3, .int (nI i))] → W p l e room_1 s m #[Value.ref b] below meth c H locs 52 1402 (lw_Z below #[Value.ref b] s) (F0 m 1535 ls [])) : W p l e room_1 s m #[Value.ref b] below meth c H locs 52 1402 (lw_Z below #[Value.ref b] s) (F0 m 379 ls []) := by
  obtain ⟨-, -, -, -, -, -, hX, hbl, -, -⟩ := C0
  obtain ⟨hx, hb, hr, hml, hown, hts, hlk, hK, hN⟩ := id X
  have hown : s.vm.findClass RL = some m.cls := hown
  have hbA : ¬ (fun q : Nat => s.heap.size ≤ q) b := Nat.not_le.mpr hbl
  obtain ⟨h0, h1, h2, h3, h4, h5, h6, h7, h8, h9, h10, h11, h12, h13, h14, h15, h16, h17, h18, h19, h20, h21, h22, h23, h24, h25, h26, h27, h28, h29, h30, h31, h32, h33, h34, h35, h36, h37, h38, h39, h40, h41, h42, h43, h44, h45, h46, h47, h48, h49, h50, h51⟩ := hw
  have i1 : vp_in (nI i + (1 : Int32)) L := by rw [show (1 : Int32) = nI 1 from rfl, nI_add]; exact vp_in_nI (by omega) (by omega)
  have i2 : vp_in (nI i + (2 : Int32)) L := by rw [show (2 : Int32) = nI 2 from rfl, nI_add]; exact vp_in_nI (by omega) (by omega)
  have i3 : vp_in (nI i + (3 : Int32)) L := by rw [show (3 : Int32) = nI 3 from rfl, nI_add]; exact vp_in_nI (by omega) (by omega)
  have i4 : vp_in (nI i + (4 : Int32)) L := by rw [show (4 : Int32) = nI 4 from rfl, nI_add]; exact vp_in_nI (by omega) (by omega)
  have i5 : vp_in (nI i + (5 : Int32)) L := by rw [show (5 : Int32) = nI 5 from rfl, nI_add]; exact vp_in_nI (by omega) (by omega)
  obtain ⟨u, v, hu, hv, he, hR2⟩ := P_mean i (by omega) tx_length tx_bytes ro_pupils ro_mood ro_letters ro_rows ro_columns ro_tenths ro_needs ro_toldDares le_seed le_questions le_rightOnes le_wrongOnes le_isKept le_dares le_times ha_cells ch_pupils ch_rule ch_ranks ch_eligible ch_eligibleAndRight ch_cells s1_seed s1_questions s1_rightOnes s1_wrongOnes s1_isKept s1_dares s1_times s2_seed s2_questions s2_rightOnes s2_wrongOnes s2_isKept s2_dares s2_times ta_size ta_hands ta_ones ta_cells tr_waited tr_size tr_hands m_readMany m_pupils m_mood m_length m_at m_faultAt m_drawn m_questions m_rights m_wrongs m_tapes m_trials m_read m_pupil m_dares m_times m_text m_joint m_others m_tapeHands m_tapeTaken m_trialHands m_trialWaited m_isKept m_keptDares m_keptTimes m_keptDrawn m_keptLesson (xs (nI i + (1 : Int32)).toNatClampNeg)  hR
  refine lv_aload_n hx hb dL_law_379 rfl (lv_at hl 1 rfl) ?_
  refine lv_aload_n hx hb dL_law_380 rfl (lv_at hl 0 rfl) ?_
  refine lv_iload_n hx hb dL_law_381 rfl (lv_at hl 3 rfl) ?_
  refine lv_iconst (v := (1 : Int32)) hx hb dL_law_382 (by decide) ?_
  refine lv_iadd hx hb dL_law_383 ?_
  refine va_sld hx hb hX hbl hbA hS i1 dL_law_384 ?_
  refine rd_i (runV (As := [.int (xs (nI i + (1 : Int32)).toNatClampNeg)]) (rest := []) X cq_X8_mean lk_L_47 (c_X8_mean l D cI cJ cZ a ws0 ro_pupils ro_mood ro_letters ro_tenths ro_needs le_seed le_questions le_rightOnes le_wrongOnes le_isKept le_dares (xs (nI i + (1 : Int32)).toNatClampNeg) u hu h0 h3 h4 h7 h8 h10 h11) rfl rfl ⟨Nat.le_of_ble_eq_true rfl, Nat.le_of_ble_eq_true rfl⟩ hP h0 rfl rfl hl.1 rfl (Nat.le_of_ble_eq_true rfl) dL_law_385 ⟨Nat.le_of_ble_eq_true rfl, Nat.le_of_ble_eq_true rfl⟩) ?_
  refine lv_aload_n hx hb dL_law_388 rfl (lv_at hl 2 rfl) ?_
  refine lv_aload_n hx hb dL_law_389 rfl (lv_at hl 0 rfl) ?_
  refine lv_iload_n hx hb dL_law_390 rfl (lv_at hl 3 rfl) ?_
  refine lv_iconst (v := (1 : Int32)) hx hb dL_law_391 (by decide) ?_
  refine lv_iadd hx hb dL_law_392 ?_
  refine va_sld hx hb hX hbl hbA hS i1 dL_law_393 ?_
  refine rd_i (runV (As := [.int (xs (nI i + (1 : Int32)).toNatClampNeg)]) (rest := [.int u]) X cq_X9_mean lk_L_50 (c_X9_mean l D cI cJ cZ a ws0 m_readMany m_pupils m_mood m_length m_at m_faultAt m_drawn m_questions m_rights m_wrongs m_tapes m_trials m_pupil m_dares (xs (nI i + (1 : Int32)).toNatClampNeg) v hv h35 h37 h38) rfl rfl ⟨Nat.le_of_ble_eq_true rfl, Nat.le_of_ble_eq_true rfl⟩ hP h35 rfl rfl hl.1 rfl (Nat.le_of_ble_eq_true rfl) dL_law_394 ⟨Nat.le_of_ble_eq_true rfl, Nat.le_of_ble_eq_true rfl⟩) ?_
  refine lv_icmp_eq (tgt := 1535) hx hb dL_law_397 (by decide) (fun _ => ?_) (fun q => absurd he q)
  exact KK tx_length tx_bytes ro_pupils ro_mood ro_letters ro_rows ro_columns ro_tenths ro_needs ro_toldDares le_seed le_questions le_rightOnes le_wrongOnes le_isKept le_dares le_times ha_cells ch_pupils ch_rule ch_ranks ch_eligible ch_eligibleAndRight ch_cells s1_seed s1_questions s1_rightOnes s1_wrongOnes s1_isKept s1_dares s1_times s2_seed s2_questions s2_rightOnes s2_wrongOnes s2_isKept s2_dares s2_times ta_size ta_hands ta_ones ta_cells tr_waited tr_size tr_hands m_readMany m_pupils m_mood m_length m_at m_faultAt m_drawn m_questions m_rights m_wrongs m_tapes m_trials m_read m_pupil m_dares m_times m_text m_joint m_others m_tapeHands m_tapeTaken m_trialHands m_trialWaited m_isKept m_keptDares m_keptTimes m_keptDrawn m_keptLesson hR2 _ _ _ hP hD hS ⟨h0, h1, h2, h3, h4, h5, h6, h7, h8, h9, h10, h11, h12, h13, h14, h15, h16, h17, h18, h19, h20, h21, h22, h23, h24, h25, h26, h27, h28, h29, h30, h31, h32, h33, h34, h35, h36, h37, h38, h39, h40, h41, h42, h43, h44, h45, h46, h47, h48, h49, h50, h51⟩ ls hl
set_option maxHeartbeats 4000000 in
set_option maxRecDepth 100000 in
theorem case_8 {p : Program} {l : Launch} {e : Env} {s : State} {m : MethodId} {below : List Frame} {meth : Method} {c : Code} {D : va_G} {cI cJ cZ : ClassId} {a : Nat → Nat} {b L : Nat} {xs : Nat → Int32} (C0 : lw_At p s m meth c b L xs) (X : Cx yL_law code 4 ret D cI cJ cZ p s m #[Value.ref b] meth c) (i : Nat) (hi : i + 5 < L) (hL : L ≤ 3072) (tx_length : Int32) (tx_bytes : Nat → Int32) (ro_pupils : Int32) (ro_mood : Int32) (ro_letters : Nat → Int32) (ro_rows : Nat → Int32) (ro_columns : Nat → Int32) (ro_tenths : Nat → Int32) (ro_needs : Nat → Int32) (ro_toldDares : Nat → Int32) (le_seed : Int64) (le_questions : Int32) (le_rightOnes : Int32) (le_wrongOnes : Int32) (le_isKept : Int32) (le_dares : Nat → Int32) (le_times : Nat → Int32) (ha_cells : Nat → Int64) (ch_pupils : Int32) (ch_rule : Int32) (ch_ranks : Nat → Int32) (ch_eligible : Nat → Int32) (ch_eligibleAndRight : Nat → Int32) (ch_cells : Nat → Int64) (s1_seed : Int64) (s1_questions : Int32) (s1_rightOnes : Int32) (s1_wrongOnes : Int32) (s1_isKept : Int32) (s1_dares : Nat → Int32) (s1_times : Nat → Int32) (s2_seed : Int64) (s2_questions : Int32) (s2_rightOnes : Int32) (s2_wrongOnes : Int32) (s2_isKept : Int32) (s2_dares : Nat → Int32) (s2_times : Nat → Int32) (ta_size : Int32) (ta_hands : Nat → Int32) (ta_ones : Nat → Int32) (ta_cells : Nat → Int64) (tr_waited : Int32) (tr_size : Int32) (tr_hands : Nat → Int32) (m_readMany : Int32) (m_pupils : Int32) (m_mood : Int32) (m_length : Int32) (m_at : Int32) (m_faultAt : Int32) (m_drawn : Int64) (m_questions : Int32) (m_rights : Int32) (m_wrongs : Int32) (m_tapes : Int32) (m_trials : Int32) (m_read : Nat → Int32) (m_pupil : Nat → Int32) (m_dares : Nat → Int32) (m_times : Nat → Int32) (m_text : Nat → Int32) (m_joint : Nat → Int64) (m_others : Nat → Int64) (m_tapeHands : Nat → Int32) (m_tapeTaken : Nat → Int32) (m_trialHands : Nat → Int32) (m_trialWaited : Nat → Int32) (m_isKept : Nat → Int32) (m_keptDares : Nat → Int32) (m_keptTimes : Nat → Int32) (m_keptDrawn : Nat → Int64) (m_keptLesson : Nat → Int32) (hR : Rel i tx_length tx_bytes ro_pupils ro_mood ro_letters ro_rows ro_columns ro_tenths ro_needs ro_toldDares le_seed le_questions le_rightOnes le_wrongOnes le_dares le_times s1_seed s1_questions s1_rightOnes s1_wrongOnes s1_isKept s1_dares s1_times s2_seed s2_questions s2_rightOnes s2_wrongOnes s2_isKept s2_dares s2_times ta_size ta_hands ta_ones tr_waited tr_size tr_hands m_pupils m_mood m_length m_drawn m_questions m_rights m_wrongs m_tapes m_trials m_pupil m_dares m_times m_text m_tapeHands m_tapeTaken m_trialHands m_trialWaited m_isKept m_keptDares m_keptTimes m_keptDrawn m_keptLesson) (ws0 : va_W) (H : Heap) (locs : List Loc) (hP : va_P D vwCl ws0 H) (hD : va_D (fun q : Nat => s.heap.size ≤ q) ws0) (hS : va_S (fun q : Nat => s.heap.size ≤ q) s.heap H locs) (hw : wAll a cI cJ cZ ws0 tx_length tx_bytes ro_pupils ro_mood ro_letters ro_rows ro_columns ro_tenths ro_needs ro_toldDares le_seed le_questions le_rightOnes le_wrongOnes le_isKept le_dares le_times ha_cells ch_pupils ch_rule ch_ranks ch_eligible ch_eligibleAndRight ch_cells s1_seed s1_questions s1_rightOnes s1_wrongOnes s1_isKept s1_dares s1_times s2_seed s2_questions s2_rightOnes s2_wrongOnes s2_isKept s2_dares s2_times ta_size ta_hands ta_ones ta_cells tr_waited tr_size tr_hands m_readMany m_pupils m_mood m_length m_at m_faultAt m_drawn m_questions m_rights m_wrongs m_tapes m_trials m_read m_pupil m_dares m_times m_text m_joint m_others m_tapeHands m_tapeTaken m_trialHands m_trialWaited m_isKept m_keptDares m_keptTimes m_keptDrawn m_keptLesson) (ls : Array Slot) (hl : lv_has ls 4 [(0, .ref b), (1, .ref (a 0)), (2, .ref (a 35)), (3, .int (nI i))]) (KK : ∀ (tx_length : Int32) (tx_bytes : Nat → Int32) (ro_pupils : Int32) (ro_mood : Int32) (ro_letters : Nat → Int32) (ro_rows : Nat → Int32) (ro_columns : Nat → Int32) (ro_tenths : Nat → Int32) (ro_needs : Nat → Int32) (ro_toldDares : Nat → Int32) (le_seed : Int64) (le_questions : Int32) (le_rightOnes : Int32) (le_wrongOnes : Int32) (le_isKept : Int32) (le_dares : Nat → Int32) (le_times : Nat → Int32) (ha_cells : Nat → Int64) (ch_pupils : Int32) (ch_rule : Int32) (ch_ranks : Nat → Int32) (ch_eligible : Nat → Int32) (ch_eligibleAndRight : Nat → Int32) (ch_cells : Nat → Int64) (s1_seed : Int64) (s1_questions : Int32) (s1_rightOnes : Int32) (s1_wrongOnes : Int32) (s1_isKept : Int32) (s1_dares : Nat → Int32) (s1_times : Nat → Int32) (s2_seed : Int64) (s2_questions : Int32) (s2_rightOnes : Int32) (s2_wrongOnes : Int32) (s2_isKept : Int32) (s2_dares : Nat → Int32) (s2_times : Nat → Int32) (ta_size : Int32) (ta_hands : Nat → Int32) (ta_ones : Nat → Int32) (ta_cells : Nat → Int64) (tr_waited : Int32) (tr_size : Int32) (tr_hands : Nat → Int32) (m_readMany : Int32) (m_pupils : Int32) (m_mood : Int32) (m_length : Int32) (m_at : Int32) (m_faultAt : Int32) (m_drawn : Int64) (m_questions : Int32) (m_rights : Int32) (m_wrongs : Int32) (m_tapes : Int32) (m_trials : Int32) (m_read : Nat → Int32) (m_pupil : Nat → Int32) (m_dares : Nat → Int32) (m_times : Nat → Int32) (m_text : Nat → Int32) (m_joint : Nat → Int64) (m_others : Nat → Int64) (m_tapeHands : Nat → Int32) (m_tapeTaken : Nat → Int32) (m_trialHands : Nat → Int32) (m_trialWaited : Nat → Int32) (m_isKept : Nat → Int32) (m_keptDares : Nat → Int32) (m_keptTimes : Nat → Int32) (m_keptDrawn : Nat → Int64) (m_keptLesson : Nat → Int32), Rel (i + 1) tx_length tx_bytes ro_pupils ro_mood ro_letters ro_rows ro_columns ro_tenths ro_needs ro_toldDares le_seed le_questions le_rightOnes le_wrongOnes le_dares le_times s1_seed s1_questions s1_rightOnes s1_wrongOnes s1_isKept s1_dares s1_times s2_seed s2_questions s2_rightOnes s2_wrongOnes s2_isKept s2_dares s2_times ta_size ta_hands ta_ones tr_waited tr_size tr_hands m_pupils m_mood m_length m_drawn m_questions m_rights m_wrongs m_tapes m_trials m_pupil m_dares m_times m_text m_tapeHands m_tapeTaken m_trialHands m_trialWaited m_isKept m_keptDares m_keptTimes m_keptDrawn m_keptLesson → ∀ (w : va_W) (H : Heap) (locs : List Loc), va_P D vwCl w H → va_D (fun q : Nat => s.heap.size ≤ q) w → va_S (fun q : Nat => s.heap.size ≤ q) s.heap H locs → wAll a cI cJ cZ w tx_length tx_bytes ro_pupils ro_mood ro_letters ro_rows ro_columns ro_tenths ro_needs ro_toldDares le_seed le_questions le_rightOnes le_wrongOnes le_isKept le_dares le_times ha_cells ch_pupils ch_rule ch_ranks ch_eligible ch_eligibleAndRight ch_cells s1_seed s1_questions s1_rightOnes s1_wrongOnes s1_isKept s1_dares s1_times s2_seed s2_questions s2_rightOnes s2_wrongOnes s2_isKept s2_dares s2_times ta_size ta_hands ta_ones ta_cells tr_waited tr_size tr_hands m_readMany m_pupils m_mood m_length m_at m_faultAt m_drawn m_questions m_rights m_wrongs m_tapes m_trials m_read m_pupil m_dares m_times m_text m_joint m_others m_tapeHands m_tapeTaken m_trialHands m_trialWaited m_isKept m_keptDares m_keptTimes m_keptDrawn m_keptLesson → ∀ ls : Array Slot, lv_has ls 4 [(0, .ref b), (1, .ref (a 0)), (2, .ref (a 35)), (3, .int (nI i))] → W p l e room_1 s m #[Value.ref b] below meth c H locs 52 1402 (lw_Z below #[Value.ref b] s) (F0 m 1535 ls [])) : W p l e room_1 s m #[Value.ref b] below meth c H locs 52 1402 (lw_Z below #[Value.ref b] s) (F0 m 402 ls []) := by
  obtain ⟨-, -, -, -, -, -, hX, hbl, -, -⟩ := C0
  obtain ⟨hx, hb, hr, hml, hown, hts, hlk, hK, hN⟩ := id X
  have hown : s.vm.findClass RL = some m.cls := hown
  have hbA : ¬ (fun q : Nat => s.heap.size ≤ q) b := Nat.not_le.mpr hbl
  obtain ⟨h0, h1, h2, h3, h4, h5, h6, h7, h8, h9, h10, h11, h12, h13, h14, h15, h16, h17, h18, h19, h20, h21, h22, h23, h24, h25, h26, h27, h28, h29, h30, h31, h32, h33, h34, h35, h36, h37, h38, h39, h40, h41, h42, h43, h44, h45, h46, h47, h48, h49, h50, h51⟩ := hw
  have i1 : vp_in (nI i + (1 : Int32)) L := by rw [show (1 : Int32) = nI 1 from rfl, nI_add]; exact vp_in_nI (by omega) (by omega)
  have i2 : vp_in (nI i + (2 : Int32)) L := by rw [show (2 : Int32) = nI 2 from rfl, nI_add]; exact vp_in_nI (by omega) (by omega)
  have i3 : vp_in (nI i + (3 : Int32)) L := by rw [show (3 : Int32) = nI 3 from rfl, nI_add]; exact vp_in_nI (by omega) (by omega)
  have i4 : vp_in (nI i + (4 : Int32)) L := by rw [show (4 : Int32) = nI 4 from rfl, nI_add]; exact vp_in_nI (by omega) (by omega)
  have i5 : vp_in (nI i + (5 : Int32)) L := by rw [show (5 : Int32) = nI 5 from rfl, nI_add]; exact vp_in_nI (by omega) (by omega)
  obtain ⟨u, v, hu, hv, he, hR2⟩ := P_quiet i (by omega) tx_length tx_bytes ro_pupils ro_mood ro_letters ro_rows ro_columns ro_tenths ro_needs ro_toldDares le_seed le_questions le_rightOnes le_wrongOnes le_isKept le_dares le_times ha_cells ch_pupils ch_rule ch_ranks ch_eligible ch_eligibleAndRight ch_cells s1_seed s1_questions s1_rightOnes s1_wrongOnes s1_isKept s1_dares s1_times s2_seed s2_questions s2_rightOnes s2_wrongOnes s2_isKept s2_dares s2_times ta_size ta_hands ta_ones ta_cells tr_waited tr_size tr_hands m_readMany m_pupils m_mood m_length m_at m_faultAt m_drawn m_questions m_rights m_wrongs m_tapes m_trials m_read m_pupil m_dares m_times m_text m_joint m_others m_tapeHands m_tapeTaken m_trialHands m_trialWaited m_isKept m_keptDares m_keptTimes m_keptDrawn m_keptLesson (xs (nI i + (1 : Int32)).toNatClampNeg)  hR
  refine lv_aload_n hx hb dL_law_402 rfl (lv_at hl 1 rfl) ?_
  refine lv_aload_n hx hb dL_law_403 rfl (lv_at hl 0 rfl) ?_
  refine lv_iload_n hx hb dL_law_404 rfl (lv_at hl 3 rfl) ?_
  refine lv_iconst (v := (1 : Int32)) hx hb dL_law_405 (by decide) ?_
  refine lv_iadd hx hb dL_law_406 ?_
  refine va_sld hx hb hX hbl hbA hS i1 dL_law_407 ?_
  refine rd_i (runV (As := [.int (xs (nI i + (1 : Int32)).toNatClampNeg)]) (rest := []) X cq_X8_quiet lk_L_51 (c_X8_quiet l D cI cJ cZ a ws0 ro_pupils ro_mood ro_letters ro_tenths ro_needs le_seed le_questions le_rightOnes le_wrongOnes le_isKept le_dares (xs (nI i + (1 : Int32)).toNatClampNeg) u hu h0 h3 h4 h7 h8 h10 h11) rfl rfl ⟨Nat.le_of_ble_eq_true rfl, Nat.le_of_ble_eq_true rfl⟩ hP h0 rfl rfl hl.1 rfl (Nat.le_of_ble_eq_true rfl) dL_law_408 ⟨Nat.le_of_ble_eq_true rfl, Nat.le_of_ble_eq_true rfl⟩) ?_
  refine lv_aload_n hx hb dL_law_411 rfl (lv_at hl 2 rfl) ?_
  refine lv_aload_n hx hb dL_law_412 rfl (lv_at hl 0 rfl) ?_
  refine lv_iload_n hx hb dL_law_413 rfl (lv_at hl 3 rfl) ?_
  refine lv_iconst (v := (1 : Int32)) hx hb dL_law_414 (by decide) ?_
  refine lv_iadd hx hb dL_law_415 ?_
  refine va_sld hx hb hX hbl hbA hS i1 dL_law_416 ?_
  refine rd_i (runV (As := [.int (xs (nI i + (1 : Int32)).toNatClampNeg)]) (rest := [.int u]) X cq_X9_quiet lk_L_54 (c_X9_quiet l D cI cJ cZ a ws0 m_readMany m_pupils m_mood m_length m_at m_faultAt m_drawn m_questions m_rights m_wrongs m_tapes m_trials m_dares m_pupil (xs (nI i + (1 : Int32)).toNatClampNeg) v hv h35 h37 h38) rfl rfl ⟨Nat.le_of_ble_eq_true rfl, Nat.le_of_ble_eq_true rfl⟩ hP h35 rfl rfl hl.1 rfl (Nat.le_of_ble_eq_true rfl) dL_law_417 ⟨Nat.le_of_ble_eq_true rfl, Nat.le_of_ble_eq_true rfl⟩) ?_
  refine lv_icmp_eq (tgt := 1535) hx hb dL_law_420 (by decide) (fun _ => ?_) (fun q => absurd he q)
  exact KK tx_length tx_bytes ro_pupils ro_mood ro_letters ro_rows ro_columns ro_tenths ro_needs ro_toldDares le_seed le_questions le_rightOnes le_wrongOnes le_isKept le_dares le_times ha_cells ch_pupils ch_rule ch_ranks ch_eligible ch_eligibleAndRight ch_cells s1_seed s1_questions s1_rightOnes s1_wrongOnes s1_isKept s1_dares s1_times s2_seed s2_questions s2_rightOnes s2_wrongOnes s2_isKept s2_dares s2_times ta_size ta_hands ta_ones ta_cells tr_waited tr_size tr_hands m_readMany m_pupils m_mood m_length m_at m_faultAt m_drawn m_questions m_rights m_wrongs m_tapes m_trials m_read m_pupil m_dares m_times m_text m_joint m_others m_tapeHands m_tapeTaken m_trialHands m_trialWaited m_isKept m_keptDares m_keptTimes m_keptDrawn m_keptLesson hR2 _ _ _ hP hD hS ⟨h0, h1, h2, h3, h4, h5, h6, h7, h8, h9, h10, h11, h12, h13, h14, h15, h16, h17, h18, h19, h20, h21, h22, h23, h24, h25, h26, h27, h28, h29, h30, h31, h32, h33, h34, h35, h36, h37, h38, h39, h40, h41, h42, h43, h44, h45, h46, h47, h48, h49, h50, h51⟩ ls hl
set_option maxHeartbeats 4000000 in
set_option maxRecDepth 100000 in
theorem case_9 {p : Program} {l : Launch} {e : Env} {s : State} {m : MethodId} {below : List Frame} {meth : Method} {c : Code} {D : va_G} {cI cJ cZ : ClassId} {a : Nat → Nat} {b L : Nat} {xs : Nat → Int32} (C0 : lw_At p s m meth c b L xs) (X : Cx yL_law code 4 ret D cI cJ cZ p s m #[Value.ref b] meth c) (i : Nat) (hi : i + 5 < L) (hL : L ≤ 3072) (tx_length : Int32) (tx_bytes : Nat → Int32) (ro_pupils : Int32) (ro_mood : Int32) (ro_letters : Nat → Int32) (ro_rows : Nat → Int32) (ro_columns : Nat → Int32) (ro_tenths : Nat → Int32) (ro_needs : Nat → Int32) (ro_toldDares : Nat → Int32) (le_seed : Int64) (le_questions : Int32) (le_rightOnes : Int32) (le_wrongOnes : Int32) (le_isKept : Int32) (le_dares : Nat → Int32) (le_times : Nat → Int32) (ha_cells : Nat → Int64) (ch_pupils : Int32) (ch_rule : Int32) (ch_ranks : Nat → Int32) (ch_eligible : Nat → Int32) (ch_eligibleAndRight : Nat → Int32) (ch_cells : Nat → Int64) (s1_seed : Int64) (s1_questions : Int32) (s1_rightOnes : Int32) (s1_wrongOnes : Int32) (s1_isKept : Int32) (s1_dares : Nat → Int32) (s1_times : Nat → Int32) (s2_seed : Int64) (s2_questions : Int32) (s2_rightOnes : Int32) (s2_wrongOnes : Int32) (s2_isKept : Int32) (s2_dares : Nat → Int32) (s2_times : Nat → Int32) (ta_size : Int32) (ta_hands : Nat → Int32) (ta_ones : Nat → Int32) (ta_cells : Nat → Int64) (tr_waited : Int32) (tr_size : Int32) (tr_hands : Nat → Int32) (m_readMany : Int32) (m_pupils : Int32) (m_mood : Int32) (m_length : Int32) (m_at : Int32) (m_faultAt : Int32) (m_drawn : Int64) (m_questions : Int32) (m_rights : Int32) (m_wrongs : Int32) (m_tapes : Int32) (m_trials : Int32) (m_read : Nat → Int32) (m_pupil : Nat → Int32) (m_dares : Nat → Int32) (m_times : Nat → Int32) (m_text : Nat → Int32) (m_joint : Nat → Int64) (m_others : Nat → Int64) (m_tapeHands : Nat → Int32) (m_tapeTaken : Nat → Int32) (m_trialHands : Nat → Int32) (m_trialWaited : Nat → Int32) (m_isKept : Nat → Int32) (m_keptDares : Nat → Int32) (m_keptTimes : Nat → Int32) (m_keptDrawn : Nat → Int64) (m_keptLesson : Nat → Int32) (hR : Rel i tx_length tx_bytes ro_pupils ro_mood ro_letters ro_rows ro_columns ro_tenths ro_needs ro_toldDares le_seed le_questions le_rightOnes le_wrongOnes le_dares le_times s1_seed s1_questions s1_rightOnes s1_wrongOnes s1_isKept s1_dares s1_times s2_seed s2_questions s2_rightOnes s2_wrongOnes s2_isKept s2_dares s2_times ta_size ta_hands ta_ones tr_waited tr_size tr_hands m_pupils m_mood m_length m_drawn m_questions m_rights m_wrongs m_tapes m_trials m_pupil m_dares m_times m_text m_tapeHands m_tapeTaken m_trialHands m_trialWaited m_isKept m_keptDares m_keptTimes m_keptDrawn m_keptLesson) (ws0 : va_W) (H : Heap) (locs : List Loc) (hP : va_P D vwCl ws0 H) (hD : va_D (fun q : Nat => s.heap.size ≤ q) ws0) (hS : va_S (fun q : Nat => s.heap.size ≤ q) s.heap H locs) (hw : wAll a cI cJ cZ ws0 tx_length tx_bytes ro_pupils ro_mood ro_letters ro_rows ro_columns ro_tenths ro_needs ro_toldDares le_seed le_questions le_rightOnes le_wrongOnes le_isKept le_dares le_times ha_cells ch_pupils ch_rule ch_ranks ch_eligible ch_eligibleAndRight ch_cells s1_seed s1_questions s1_rightOnes s1_wrongOnes s1_isKept s1_dares s1_times s2_seed s2_questions s2_rightOnes s2_wrongOnes s2_isKept s2_dares s2_times ta_size ta_hands ta_ones ta_cells tr_waited tr_size tr_hands m_readMany m_pupils m_mood m_length m_at m_faultAt m_drawn m_questions m_rights m_wrongs m_tapes m_trials m_read m_pupil m_dares m_times m_text m_joint m_others m_tapeHands m_tapeTaken m_trialHands m_trialWaited m_isKept m_keptDares m_keptTimes m_keptDrawn m_keptLesson) (ls : Array Slot) (hl : lv_has ls 4 [(0, .ref b), (1, .ref (a 0)), (2, .ref (a 35)), (3, .int (nI i))]) (KK : ∀ (tx_length : Int32) (tx_bytes : Nat → Int32) (ro_pupils : Int32) (ro_mood : Int32) (ro_letters : Nat → Int32) (ro_rows : Nat → Int32) (ro_columns : Nat → Int32) (ro_tenths : Nat → Int32) (ro_needs : Nat → Int32) (ro_toldDares : Nat → Int32) (le_seed : Int64) (le_questions : Int32) (le_rightOnes : Int32) (le_wrongOnes : Int32) (le_isKept : Int32) (le_dares : Nat → Int32) (le_times : Nat → Int32) (ha_cells : Nat → Int64) (ch_pupils : Int32) (ch_rule : Int32) (ch_ranks : Nat → Int32) (ch_eligible : Nat → Int32) (ch_eligibleAndRight : Nat → Int32) (ch_cells : Nat → Int64) (s1_seed : Int64) (s1_questions : Int32) (s1_rightOnes : Int32) (s1_wrongOnes : Int32) (s1_isKept : Int32) (s1_dares : Nat → Int32) (s1_times : Nat → Int32) (s2_seed : Int64) (s2_questions : Int32) (s2_rightOnes : Int32) (s2_wrongOnes : Int32) (s2_isKept : Int32) (s2_dares : Nat → Int32) (s2_times : Nat → Int32) (ta_size : Int32) (ta_hands : Nat → Int32) (ta_ones : Nat → Int32) (ta_cells : Nat → Int64) (tr_waited : Int32) (tr_size : Int32) (tr_hands : Nat → Int32) (m_readMany : Int32) (m_pupils : Int32) (m_mood : Int32) (m_length : Int32) (m_at : Int32) (m_faultAt : Int32) (m_drawn : Int64) (m_questions : Int32) (m_rights : Int32) (m_wrongs : Int32) (m_tapes : Int32) (m_trials : Int32) (m_read : Nat → Int32) (m_pupil : Nat → Int32) (m_dares : Nat → Int32) (m_times : Nat → Int32) (m_text : Nat → Int32) (m_joint : Nat → Int64) (m_others : Nat → Int64) (m_tapeHands : Nat → Int32) (m_tapeTaken : Nat → Int32) (m_trialHands : Nat → Int32) (m_trialWaited : Nat → Int32) (m_isKept : Nat → Int32) (m_keptDares : Nat → Int32) (m_keptTimes : Nat → Int32) (m_keptDrawn : Nat → Int64) (m_keptLesson : Nat → Int32), Rel (i + 1) tx_length tx_bytes ro_pupils ro_mood ro_letters ro_rows ro_columns ro_tenths ro_needs ro_toldDares le_seed le_questions le_rightOnes le_wrongOnes le_dares le_times s1_seed s1_questions s1_rightOnes s1_wrongOnes s1_isKept s1_dares s1_times s2_seed s2_questions s2_rightOnes s2_wrongOnes s2_isKept s2_dares s2_times ta_size ta_hands ta_ones tr_waited tr_size tr_hands m_pupils m_mood m_length m_drawn m_questions m_rights m_wrongs m_tapes m_trials m_pupil m_dares m_times m_text m_tapeHands m_tapeTaken m_trialHands m_trialWaited m_isKept m_keptDares m_keptTimes m_keptDrawn m_keptLesson → ∀ (w : va_W) (H : Heap) (locs : List Loc), va_P D vwCl w H → va_D (fun q : Nat => s.heap.size ≤ q) w → va_S (fun q : Nat => s.heap.size ≤ q) s.heap H locs → wAll a cI cJ cZ w tx_length tx_bytes ro_pupils ro_mood ro_letters ro_rows ro_columns ro_tenths ro_needs ro_toldDares le_seed le_questions le_rightOnes le_wrongOnes le_isKept le_dares le_times ha_cells ch_pupils ch_rule ch_ranks ch_eligible ch_eligibleAndRight ch_cells s1_seed s1_questions s1_rightOnes s1_wrongOnes s1_isKept s1_dares s1_times s2_seed s2_questions s2_rightOnes s2_wrongOnes s2_isKept s2_dares s2_times ta_size ta_hands ta_ones ta_cells tr_waited tr_size tr_hands m_readMany m_pupils m_mood m_length m_at m_faultAt m_drawn m_questions m_rights m_wrongs m_tapes m_trials m_read m_pupil m_dares m_times m_text m_joint m_others m_tapeHands m_tapeTaken m_trialHands m_trialWaited m_isKept m_keptDares m_keptTimes m_keptDrawn m_keptLesson → ∀ ls : Array Slot, lv_has ls 4 [(0, .ref b), (1, .ref (a 0)), (2, .ref (a 35)), (3, .int (nI i))] → W p l e room_1 s m #[Value.ref b] below meth c H locs 52 1402 (lw_Z below #[Value.ref b] s) (F0 m 1535 ls [])) : W p l e room_1 s m #[Value.ref b] below meth c H locs 52 1402 (lw_Z below #[Value.ref b] s) (F0 m 425 ls []) := by
  obtain ⟨-, -, -, -, -, -, hX, hbl, -, -⟩ := C0
  obtain ⟨hx, hb, hr, hml, hown, hts, hlk, hK, hN⟩ := id X
  have hown : s.vm.findClass RL = some m.cls := hown
  have hbA : ¬ (fun q : Nat => s.heap.size ≤ q) b := Nat.not_le.mpr hbl
  obtain ⟨h0, h1, h2, h3, h4, h5, h6, h7, h8, h9, h10, h11, h12, h13, h14, h15, h16, h17, h18, h19, h20, h21, h22, h23, h24, h25, h26, h27, h28, h29, h30, h31, h32, h33, h34, h35, h36, h37, h38, h39, h40, h41, h42, h43, h44, h45, h46, h47, h48, h49, h50, h51⟩ := hw
  have i1 : vp_in (nI i + (1 : Int32)) L := by rw [show (1 : Int32) = nI 1 from rfl, nI_add]; exact vp_in_nI (by omega) (by omega)
  have i2 : vp_in (nI i + (2 : Int32)) L := by rw [show (2 : Int32) = nI 2 from rfl, nI_add]; exact vp_in_nI (by omega) (by omega)
  have i3 : vp_in (nI i + (3 : Int32)) L := by rw [show (3 : Int32) = nI 3 from rfl, nI_add]; exact vp_in_nI (by omega) (by omega)
  have i4 : vp_in (nI i + (4 : Int32)) L := by rw [show (4 : Int32) = nI 4 from rfl, nI_add]; exact vp_in_nI (by omega) (by omega)
  have i5 : vp_in (nI i + (5 : Int32)) L := by rw [show (5 : Int32) = nI 5 from rfl, nI_add]; exact vp_in_nI (by omega) (by omega)
  by_cases hz : xs (nI i + (3 : Int32)).toNatClampNeg = 0
  · obtain ⟨u, v, hu, hv, he, hR2⟩ := P_hands i (by omega) tx_length tx_bytes ro_pupils ro_mood ro_letters ro_rows ro_columns ro_tenths ro_needs ro_toldDares le_seed le_questions le_rightOnes le_wrongOnes le_isKept le_dares le_times ha_cells ch_pupils ch_rule ch_ranks ch_eligible ch_eligibleAndRight ch_cells s1_seed s1_questions s1_rightOnes s1_wrongOnes s1_isKept s1_dares s1_times s2_seed s2_questions s2_rightOnes s2_wrongOnes s2_isKept s2_dares s2_times ta_size ta_hands ta_ones ta_cells tr_waited tr_size tr_hands m_readMany m_pupils m_mood m_length m_at m_faultAt m_drawn m_questions m_rights m_wrongs m_tapes m_trials m_read m_pupil m_dares m_times m_text m_joint m_others m_tapeHands m_tapeTaken m_trialHands m_trialWaited m_isKept m_keptDares m_keptTimes m_keptDrawn m_keptLesson (xs (nI i + (1 : Int32)).toNatClampNeg) (xs (nI i + (2 : Int32)).toNatClampNeg) (0 : Int32) (by decide) hR
    refine lv_aload_n hx hb dL_law_425 rfl (lv_at hl 1 rfl) ?_
    refine lv_aload_n hx hb dL_law_426 rfl (lv_at hl 0 rfl) ?_
    refine lv_iload_n hx hb dL_law_427 rfl (lv_at hl 3 rfl) ?_
    refine lv_iconst (v := (1 : Int32)) hx hb dL_law_428 (by decide) ?_
    refine lv_iadd hx hb dL_law_429 ?_
    refine va_sld hx hb hX hbl hbA hS i1 dL_law_430 ?_
    refine lv_aload_n hx hb dL_law_431 rfl (lv_at hl 0 rfl) ?_
    refine lv_iload_n hx hb dL_law_432 rfl (lv_at hl 3 rfl) ?_
    refine lv_iconst (v := (2 : Int32)) hx hb dL_law_433 (by decide) ?_
    refine lv_iadd hx hb dL_law_434 ?_
    refine va_sld hx hb hX hbl hbA hS i2 dL_law_435 ?_
    refine lv_aload_n hx hb dL_law_436 rfl (lv_at hl 0 rfl) ?_
    refine lv_iload_n hx hb dL_law_437 rfl (lv_at hl 3 rfl) ?_
    refine lv_iconst (v := (3 : Int32)) hx hb dL_law_438 (by decide) ?_
    refine lv_iadd hx hb dL_law_439 ?_
    refine va_sld hx hb hX hbl hbA hS i3 dL_law_440 ?_
    refine lv_if_eq (tgt := 448) hx hb dL_law_441 (by decide) (fun _ => ?_) (fun q => absurd hz q)
    refine lv_iconst (v := (0 : Int32)) hx hb dL_law_448 (by decide) ?_
    refine wr_l (runV (As := [.int (xs (nI i + (1 : Int32)).toNatClampNeg), .int (xs (nI i + (2 : Int32)).toNatClampNeg), .int (0 : Int32)]) (rest := []) X cq_X8_hands lk_L_55 (c_X8_hands l D cI cJ cZ a ws0 (fun q : Nat => s.heap.size ≤ q) ro_pupils ro_mood ro_letters ro_tenths ro_needs le_seed le_questions le_rightOnes le_wrongOnes le_isKept le_dares ha_cells (xs (nI i + (1 : Int32)).toNatClampNeg) (xs (nI i + (2 : Int32)).toNatClampNeg) (0 : Int32) u hu h0 h3 h4 h7 h8 h10 h11 h13 h14 h15 hD) rfl rfl ⟨Nat.le_of_ble_eq_true rfl, Nat.le_of_ble_eq_true rfl⟩ hP h0 rfl rfl hl.1 rfl (Nat.le_of_ble_eq_true rfl) dL_law_449 ⟨Nat.le_of_ble_eq_true rfl, Nat.le_of_ble_eq_true rfl⟩) hS (fun w1 H locs hP hD hk hB hS => ?_)
    have h15 : w1[15]? = some (a 15, .inl (cJ, 169, .inr (.inl u.2))) := hB
    have h0 := (hk 0 (by decide)).trans h0
    have h1 := (hk 1 (by decide)).trans h1
    have h2 := (hk 2 (by decide)).trans h2
    have h3 := (hk 3 (by decide)).trans h3
    have h4 := (hk 4 (by decide)).trans h4
    have h5 := (hk 5 (by decide)).trans h5
    have h6 := (hk 6 (by decide)).trans h6
    have h7 := (hk 7 (by decide)).trans h7
    have h8 := (hk 8 (by decide)).trans h8
    have h9 := (hk 9 (by decide)).trans h9
    have h10 := (hk 10 (by decide)).trans h10
    have h11 := (hk 11 (by decide)).trans h11
    have h12 := (hk 12 (by decide)).trans h12
    have h13 := (hk 13 (by decide)).trans h13
    have h14 := (hk 14 (by decide)).trans h14
    have h16 := (hk 16 (by decide)).trans h16
    have h17 := (hk 17 (by decide)).trans h17
    have h18 := (hk 18 (by decide)).trans h18
    have h19 := (hk 19 (by decide)).trans h19
    have h20 := (hk 20 (by decide)).trans h20
    have h21 := (hk 21 (by decide)).trans h21
    have h22 := (hk 22 (by decide)).trans h22
    have h23 := (hk 23 (by decide)).trans h23
    have h24 := (hk 24 (by decide)).trans h24
    have h25 := (hk 25 (by decide)).trans h25
    have h26 := (hk 26 (by decide)).trans h26
    have h27 := (hk 27 (by decide)).trans h27
    have h28 := (hk 28 (by decide)).trans h28
    have h29 := (hk 29 (by decide)).trans h29
    have h30 := (hk 30 (by decide)).trans h30
    have h31 := (hk 31 (by decide)).trans h31
    have h32 := (hk 32 (by decide)).trans h32
    have h33 := (hk 33 (by decide)).trans h33
    have h34 := (hk 34 (by decide)).trans h34
    have h35 := (hk 35 (by decide)).trans h35
    have h36 := (hk 36 (by decide)).trans h36
    have h37 := (hk 37 (by decide)).trans h37
    have h38 := (hk 38 (by decide)).trans h38
    have h39 := (hk 39 (by decide)).trans h39
    have h40 := (hk 40 (by decide)).trans h40
    have h41 := (hk 41 (by decide)).trans h41
    have h42 := (hk 42 (by decide)).trans h42
    have h43 := (hk 43 (by decide)).trans h43
    have h44 := (hk 44 (by decide)).trans h44
    have h45 := (hk 45 (by decide)).trans h45
    have h46 := (hk 46 (by decide)).trans h46
    have h47 := (hk 47 (by decide)).trans h47
    have h48 := (hk 48 (by decide)).trans h48
    have h49 := (hk 49 (by decide)).trans h49
    have h50 := (hk 50 (by decide)).trans h50
    have h51 := (hk 51 (by decide)).trans h51
    refine lv_aload_n hx hb dL_law_452 rfl (lv_at hl 2 rfl) ?_
    refine lv_aload_n hx hb dL_law_453 rfl (lv_at hl 0 rfl) ?_
    refine lv_iload_n hx hb dL_law_454 rfl (lv_at hl 3 rfl) ?_
    refine lv_iconst (v := (1 : Int32)) hx hb dL_law_455 (by decide) ?_
    refine lv_iadd hx hb dL_law_456 ?_
    refine va_sld hx hb hX hbl hbA hS i1 dL_law_457 ?_
    refine lv_aload_n hx hb dL_law_458 rfl (lv_at hl 0 rfl) ?_
    refine lv_iload_n hx hb dL_law_459 rfl (lv_at hl 3 rfl) ?_
    refine lv_iconst (v := (2 : Int32)) hx hb dL_law_460 (by decide) ?_
    refine lv_iadd hx hb dL_law_461 ?_
    refine va_sld hx hb hX hbl hbA hS i2 dL_law_462 ?_
    refine lv_aload_n hx hb dL_law_463 rfl (lv_at hl 0 rfl) ?_
    refine lv_iload_n hx hb dL_law_464 rfl (lv_at hl 3 rfl) ?_
    refine lv_iconst (v := (3 : Int32)) hx hb dL_law_465 (by decide) ?_
    refine lv_iadd hx hb dL_law_466 ?_
    refine va_sld hx hb hX hbl hbA hS i3 dL_law_467 ?_
    refine lv_if_eq (tgt := 475) hx hb dL_law_468 (by decide) (fun _ => ?_) (fun q => absurd hz q)
    refine lv_iconst (v := (0 : Int32)) hx hb dL_law_475 (by decide) ?_
    refine wr_l (runV (As := [.int (xs (nI i + (1 : Int32)).toNatClampNeg), .int (xs (nI i + (2 : Int32)).toNatClampNeg), .int (0 : Int32)]) (rest := [.long u.1]) X cq_X9_hands lk_L_59 (c_X9_hands l D cI cJ cZ a w1 (fun q : Nat => s.heap.size ≤ q) m_readMany m_pupils m_mood m_length m_at m_faultAt m_drawn m_questions m_rights m_wrongs m_tapes m_trials m_pupil m_dares m_joint (xs (nI i + (1 : Int32)).toNatClampNeg) (xs (nI i + (2 : Int32)).toNatClampNeg) (0 : Int32) v hv h35 h37 h38 h41 hD) rfl rfl ⟨Nat.le_of_ble_eq_true rfl, Nat.le_of_ble_eq_true rfl⟩ hP h35 rfl rfl hl.1 rfl (Nat.le_of_ble_eq_true rfl) dL_law_476 ⟨Nat.le_of_ble_eq_true rfl, Nat.le_of_ble_eq_true rfl⟩) hS (fun w2 H locs hP hD hk hB hS => ?_)
    have h41 : w2[41]? = some (a 41, .inl (cJ, 169, .inr (.inl v.2))) := hB
    have h0 := (hk 0 (by decide)).trans h0
    have h1 := (hk 1 (by decide)).trans h1
    have h2 := (hk 2 (by decide)).trans h2
    have h3 := (hk 3 (by decide)).trans h3
    have h4 := (hk 4 (by decide)).trans h4
    have h5 := (hk 5 (by decide)).trans h5
    have h6 := (hk 6 (by decide)).trans h6
    have h7 := (hk 7 (by decide)).trans h7
    have h8 := (hk 8 (by decide)).trans h8
    have h9 := (hk 9 (by decide)).trans h9
    have h10 := (hk 10 (by decide)).trans h10
    have h11 := (hk 11 (by decide)).trans h11
    have h12 := (hk 12 (by decide)).trans h12
    have h13 := (hk 13 (by decide)).trans h13
    have h14 := (hk 14 (by decide)).trans h14
    have h15 := (hk 15 (by decide)).trans h15
    have h16 := (hk 16 (by decide)).trans h16
    have h17 := (hk 17 (by decide)).trans h17
    have h18 := (hk 18 (by decide)).trans h18
    have h19 := (hk 19 (by decide)).trans h19
    have h20 := (hk 20 (by decide)).trans h20
    have h21 := (hk 21 (by decide)).trans h21
    have h22 := (hk 22 (by decide)).trans h22
    have h23 := (hk 23 (by decide)).trans h23
    have h24 := (hk 24 (by decide)).trans h24
    have h25 := (hk 25 (by decide)).trans h25
    have h26 := (hk 26 (by decide)).trans h26
    have h27 := (hk 27 (by decide)).trans h27
    have h28 := (hk 28 (by decide)).trans h28
    have h29 := (hk 29 (by decide)).trans h29
    have h30 := (hk 30 (by decide)).trans h30
    have h31 := (hk 31 (by decide)).trans h31
    have h32 := (hk 32 (by decide)).trans h32
    have h33 := (hk 33 (by decide)).trans h33
    have h34 := (hk 34 (by decide)).trans h34
    have h35 := (hk 35 (by decide)).trans h35
    have h36 := (hk 36 (by decide)).trans h36
    have h37 := (hk 37 (by decide)).trans h37
    have h38 := (hk 38 (by decide)).trans h38
    have h39 := (hk 39 (by decide)).trans h39
    have h40 := (hk 40 (by decide)).trans h40
    have h42 := (hk 42 (by decide)).trans h42
    have h43 := (hk 43 (by decide)).trans h43
    have h44 := (hk 44 (by decide)).trans h44
    have h45 := (hk 45 (by decide)).trans h45
    have h46 := (hk 46 (by decide)).trans h46
    have h47 := (hk 47 (by decide)).trans h47
    have h48 := (hk 48 (by decide)).trans h48
    have h49 := (hk 49 (by decide)).trans h49
    have h50 := (hk 50 (by decide)).trans h50
    have h51 := (hk 51 (by decide)).trans h51
    refine W.lcmp hx hb dL_law_479 ?_
    refine lv_if_eq (tgt := 1535) hx hb dL_law_480 (by decide) (fun _ => ?_) (fun q => absurd ((lc_eq _ _).mpr he) q)
    exact KK tx_length tx_bytes ro_pupils ro_mood ro_letters ro_rows ro_columns ro_tenths ro_needs ro_toldDares le_seed le_questions le_rightOnes le_wrongOnes le_isKept le_dares le_times u.2 ch_pupils ch_rule ch_ranks ch_eligible ch_eligibleAndRight ch_cells s1_seed s1_questions s1_rightOnes s1_wrongOnes s1_isKept s1_dares s1_times s2_seed s2_questions s2_rightOnes s2_wrongOnes s2_isKept s2_dares s2_times ta_size ta_hands ta_ones ta_cells tr_waited tr_size tr_hands m_readMany m_pupils m_mood m_length m_at m_faultAt m_drawn m_questions m_rights m_wrongs m_tapes m_trials m_read m_pupil m_dares m_times m_text v.2 m_others m_tapeHands m_tapeTaken m_trialHands m_trialWaited m_isKept m_keptDares m_keptTimes m_keptDrawn m_keptLesson hR2 _ _ _ hP hD hS ⟨h0, h1, h2, h3, h4, h5, h6, h7, h8, h9, h10, h11, h12, h13, h14, h15, h16, h17, h18, h19, h20, h21, h22, h23, h24, h25, h26, h27, h28, h29, h30, h31, h32, h33, h34, h35, h36, h37, h38, h39, h40, h41, h42, h43, h44, h45, h46, h47, h48, h49, h50, h51⟩ ls hl
  · obtain ⟨u, v, hu, hv, he, hR2⟩ := P_hands i (by omega) tx_length tx_bytes ro_pupils ro_mood ro_letters ro_rows ro_columns ro_tenths ro_needs ro_toldDares le_seed le_questions le_rightOnes le_wrongOnes le_isKept le_dares le_times ha_cells ch_pupils ch_rule ch_ranks ch_eligible ch_eligibleAndRight ch_cells s1_seed s1_questions s1_rightOnes s1_wrongOnes s1_isKept s1_dares s1_times s2_seed s2_questions s2_rightOnes s2_wrongOnes s2_isKept s2_dares s2_times ta_size ta_hands ta_ones ta_cells tr_waited tr_size tr_hands m_readMany m_pupils m_mood m_length m_at m_faultAt m_drawn m_questions m_rights m_wrongs m_tapes m_trials m_read m_pupil m_dares m_times m_text m_joint m_others m_tapeHands m_tapeTaken m_trialHands m_trialWaited m_isKept m_keptDares m_keptTimes m_keptDrawn m_keptLesson (xs (nI i + (1 : Int32)).toNatClampNeg) (xs (nI i + (2 : Int32)).toNatClampNeg) (1 : Int32) (by decide) hR
    refine lv_aload_n hx hb dL_law_425 rfl (lv_at hl 1 rfl) ?_
    refine lv_aload_n hx hb dL_law_426 rfl (lv_at hl 0 rfl) ?_
    refine lv_iload_n hx hb dL_law_427 rfl (lv_at hl 3 rfl) ?_
    refine lv_iconst (v := (1 : Int32)) hx hb dL_law_428 (by decide) ?_
    refine lv_iadd hx hb dL_law_429 ?_
    refine va_sld hx hb hX hbl hbA hS i1 dL_law_430 ?_
    refine lv_aload_n hx hb dL_law_431 rfl (lv_at hl 0 rfl) ?_
    refine lv_iload_n hx hb dL_law_432 rfl (lv_at hl 3 rfl) ?_
    refine lv_iconst (v := (2 : Int32)) hx hb dL_law_433 (by decide) ?_
    refine lv_iadd hx hb dL_law_434 ?_
    refine va_sld hx hb hX hbl hbA hS i2 dL_law_435 ?_
    refine lv_aload_n hx hb dL_law_436 rfl (lv_at hl 0 rfl) ?_
    refine lv_iload_n hx hb dL_law_437 rfl (lv_at hl 3 rfl) ?_
    refine lv_iconst (v := (3 : Int32)) hx hb dL_law_438 (by decide) ?_
    refine lv_iadd hx hb dL_law_439 ?_
    refine va_sld hx hb hX hbl hbA hS i3 dL_law_440 ?_
    refine lv_if_eq (tgt := 448) hx hb dL_law_441 (by decide) (fun q => absurd q hz) (fun _ => ?_)
    refine lv_iconst (v := (1 : Int32)) hx hb dL_law_444 (by decide) ?_
    refine lv_goto (tgt := 449) hx hb dL_law_445 (by decide) ?_
    refine wr_l (runV (As := [.int (xs (nI i + (1 : Int32)).toNatClampNeg), .int (xs (nI i + (2 : Int32)).toNatClampNeg), .int (1 : Int32)]) (rest := []) X cq_X8_hands lk_L_55 (c_X8_hands l D cI cJ cZ a ws0 (fun q : Nat => s.heap.size ≤ q) ro_pupils ro_mood ro_letters ro_tenths ro_needs le_seed le_questions le_rightOnes le_wrongOnes le_isKept le_dares ha_cells (xs (nI i + (1 : Int32)).toNatClampNeg) (xs (nI i + (2 : Int32)).toNatClampNeg) (1 : Int32) u hu h0 h3 h4 h7 h8 h10 h11 h13 h14 h15 hD) rfl rfl ⟨Nat.le_of_ble_eq_true rfl, Nat.le_of_ble_eq_true rfl⟩ hP h0 rfl rfl hl.1 rfl (Nat.le_of_ble_eq_true rfl) dL_law_449 ⟨Nat.le_of_ble_eq_true rfl, Nat.le_of_ble_eq_true rfl⟩) hS (fun w1 H locs hP hD hk hB hS => ?_)
    have h15 : w1[15]? = some (a 15, .inl (cJ, 169, .inr (.inl u.2))) := hB
    have h0 := (hk 0 (by decide)).trans h0
    have h1 := (hk 1 (by decide)).trans h1
    have h2 := (hk 2 (by decide)).trans h2
    have h3 := (hk 3 (by decide)).trans h3
    have h4 := (hk 4 (by decide)).trans h4
    have h5 := (hk 5 (by decide)).trans h5
    have h6 := (hk 6 (by decide)).trans h6
    have h7 := (hk 7 (by decide)).trans h7
    have h8 := (hk 8 (by decide)).trans h8
    have h9 := (hk 9 (by decide)).trans h9
    have h10 := (hk 10 (by decide)).trans h10
    have h11 := (hk 11 (by decide)).trans h11
    have h12 := (hk 12 (by decide)).trans h12
    have h13 := (hk 13 (by decide)).trans h13
    have h14 := (hk 14 (by decide)).trans h14
    have h16 := (hk 16 (by decide)).trans h16
    have h17 := (hk 17 (by decide)).trans h17
    have h18 := (hk 18 (by decide)).trans h18
    have h19 := (hk 19 (by decide)).trans h19
    have h20 := (hk 20 (by decide)).trans h20
    have h21 := (hk 21 (by decide)).trans h21
    have h22 := (hk 22 (by decide)).trans h22
    have h23 := (hk 23 (by decide)).trans h23
    have h24 := (hk 24 (by decide)).trans h24
    have h25 := (hk 25 (by decide)).trans h25
    have h26 := (hk 26 (by decide)).trans h26
    have h27 := (hk 27 (by decide)).trans h27
    have h28 := (hk 28 (by decide)).trans h28
    have h29 := (hk 29 (by decide)).trans h29
    have h30 := (hk 30 (by decide)).trans h30
    have h31 := (hk 31 (by decide)).trans h31
    have h32 := (hk 32 (by decide)).trans h32
    have h33 := (hk 33 (by decide)).trans h33
    have h34 := (hk 34 (by decide)).trans h34
    have h35 := (hk 35 (by decide)).trans h35
    have h36 := (hk 36 (by decide)).trans h36
    have h37 := (hk 37 (by decide)).trans h37
    have h38 := (hk 38 (by decide)).trans h38
    have h39 := (hk 39 (by decide)).trans h39
    have h40 := (hk 40 (by decide)).trans h40
    have h41 := (hk 41 (by decide)).trans h41
    have h42 := (hk 42 (by decide)).trans h42
    have h43 := (hk 43 (by decide)).trans h43
    have h44 := (hk 44 (by decide)).trans h44
    have h45 := (hk 45 (by decide)).trans h45
    have h46 := (hk 46 (by decide)).trans h46
    have h47 := (hk 47 (by decide)).trans h47
    have h48 := (hk 48 (by decide)).trans h48
    have h49 := (hk 49 (by decide)).trans h49
    have h50 := (hk 50 (by decide)).trans h50
    have h51 := (hk 51 (by decide)).trans h51
    refine lv_aload_n hx hb dL_law_452 rfl (lv_at hl 2 rfl) ?_
    refine lv_aload_n hx hb dL_law_453 rfl (lv_at hl 0 rfl) ?_
    refine lv_iload_n hx hb dL_law_454 rfl (lv_at hl 3 rfl) ?_
    refine lv_iconst (v := (1 : Int32)) hx hb dL_law_455 (by decide) ?_
    refine lv_iadd hx hb dL_law_456 ?_
    refine va_sld hx hb hX hbl hbA hS i1 dL_law_457 ?_
    refine lv_aload_n hx hb dL_law_458 rfl (lv_at hl 0 rfl) ?_
    refine lv_iload_n hx hb dL_law_459 rfl (lv_at hl 3 rfl) ?_
    refine lv_iconst (v := (2 : Int32)) hx hb dL_law_460 (by decide) ?_
    refine lv_iadd hx hb dL_law_461 ?_
    refine va_sld hx hb hX hbl hbA hS i2 dL_law_462 ?_
    refine lv_aload_n hx hb dL_law_463 rfl (lv_at hl 0 rfl) ?_
    refine lv_iload_n hx hb dL_law_464 rfl (lv_at hl 3 rfl) ?_
    refine lv_iconst (v := (3 : Int32)) hx hb dL_law_465 (by decide) ?_
    refine lv_iadd hx hb dL_law_466 ?_
    refine va_sld hx hb hX hbl hbA hS i3 dL_law_467 ?_
    refine lv_if_eq (tgt := 475) hx hb dL_law_468 (by decide) (fun q => absurd q hz) (fun _ => ?_)
    refine lv_iconst (v := (1 : Int32)) hx hb dL_law_471 (by decide) ?_
    refine lv_goto (tgt := 476) hx hb dL_law_472 (by decide) ?_
    refine wr_l (runV (As := [.int (xs (nI i + (1 : Int32)).toNatClampNeg), .int (xs (nI i + (2 : Int32)).toNatClampNeg), .int (1 : Int32)]) (rest := [.long u.1]) X cq_X9_hands lk_L_59 (c_X9_hands l D cI cJ cZ a w1 (fun q : Nat => s.heap.size ≤ q) m_readMany m_pupils m_mood m_length m_at m_faultAt m_drawn m_questions m_rights m_wrongs m_tapes m_trials m_pupil m_dares m_joint (xs (nI i + (1 : Int32)).toNatClampNeg) (xs (nI i + (2 : Int32)).toNatClampNeg) (1 : Int32) v hv h35 h37 h38 h41 hD) rfl rfl ⟨Nat.le_of_ble_eq_true rfl, Nat.le_of_ble_eq_true rfl⟩ hP h35 rfl rfl hl.1 rfl (Nat.le_of_ble_eq_true rfl) dL_law_476 ⟨Nat.le_of_ble_eq_true rfl, Nat.le_of_ble_eq_true rfl⟩) hS (fun w2 H locs hP hD hk hB hS => ?_)
    have h41 : w2[41]? = some (a 41, .inl (cJ, 169, .inr (.inl v.2))) := hB
    have h0 := (hk 0 (by decide)).trans h0
    have h1 := (hk 1 (by decide)).trans h1
    have h2 := (hk 2 (by decide)).trans h2
    have h3 := (hk 3 (by decide)).trans h3
    have h4 := (hk 4 (by decide)).trans h4
    have h5 := (hk 5 (by decide)).trans h5
    have h6 := (hk 6 (by decide)).trans h6
    have h7 := (hk 7 (by decide)).trans h7
    have h8 := (hk 8 (by decide)).trans h8
    have h9 := (hk 9 (by decide)).trans h9
    have h10 := (hk 10 (by decide)).trans h10
    have h11 := (hk 11 (by decide)).trans h11
    have h12 := (hk 12 (by decide)).trans h12
    have h13 := (hk 13 (by decide)).trans h13
    have h14 := (hk 14 (by decide)).trans h14
    have h15 := (hk 15 (by decide)).trans h15
    have h16 := (hk 16 (by decide)).trans h16
    have h17 := (hk 17 (by decide)).trans h17
    have h18 := (hk 18 (by decide)).trans h18
    have h19 := (hk 19 (by decide)).trans h19
    have h20 := (hk 20 (by decide)).trans h20
    have h21 := (hk 21 (by decide)).trans h21
    have h22 := (hk 22 (by decide)).trans h22
    have h23 := (hk 23 (by decide)).trans h23
    have h24 := (hk 24 (by decide)).trans h24
    have h25 := (hk 25 (by decide)).trans h25
    have h26 := (hk 26 (by decide)).trans h26
    have h27 := (hk 27 (by decide)).trans h27
    have h28 := (hk 28 (by decide)).trans h28
    have h29 := (hk 29 (by decide)).trans h29
    have h30 := (hk 30 (by decide)).trans h30
    have h31 := (hk 31 (by decide)).trans h31
    have h32 := (hk 32 (by decide)).trans h32
    have h33 := (hk 33 (by decide)).trans h33
    have h34 := (hk 34 (by decide)).trans h34
    have h35 := (hk 35 (by decide)).trans h35
    have h36 := (hk 36 (by decide)).trans h36
    have h37 := (hk 37 (by decide)).trans h37
    have h38 := (hk 38 (by decide)).trans h38
    have h39 := (hk 39 (by decide)).trans h39
    have h40 := (hk 40 (by decide)).trans h40
    have h42 := (hk 42 (by decide)).trans h42
    have h43 := (hk 43 (by decide)).trans h43
    have h44 := (hk 44 (by decide)).trans h44
    have h45 := (hk 45 (by decide)).trans h45
    have h46 := (hk 46 (by decide)).trans h46
    have h47 := (hk 47 (by decide)).trans h47
    have h48 := (hk 48 (by decide)).trans h48
    have h49 := (hk 49 (by decide)).trans h49
    have h50 := (hk 50 (by decide)).trans h50
    have h51 := (hk 51 (by decide)).trans h51
    refine W.lcmp hx hb dL_law_479 ?_
    refine lv_if_eq (tgt := 1535) hx hb dL_law_480 (by decide) (fun _ => ?_) (fun q => absurd ((lc_eq _ _).mpr he) q)
    exact KK tx_length tx_bytes ro_pupils ro_mood ro_letters ro_rows ro_columns ro_tenths ro_needs ro_toldDares le_seed le_questions le_rightOnes le_wrongOnes le_isKept le_dares le_times u.2 ch_pupils ch_rule ch_ranks ch_eligible ch_eligibleAndRight ch_cells s1_seed s1_questions s1_rightOnes s1_wrongOnes s1_isKept s1_dares s1_times s2_seed s2_questions s2_rightOnes s2_wrongOnes s2_isKept s2_dares s2_times ta_size ta_hands ta_ones ta_cells tr_waited tr_size tr_hands m_readMany m_pupils m_mood m_length m_at m_faultAt m_drawn m_questions m_rights m_wrongs m_tapes m_trials m_read m_pupil m_dares m_times m_text v.2 m_others m_tapeHands m_tapeTaken m_trialHands m_trialWaited m_isKept m_keptDares m_keptTimes m_keptDrawn m_keptLesson hR2 _ _ _ hP hD hS ⟨h0, h1, h2, h3, h4, h5, h6, h7, h8, h9, h10, h11, h12, h13, h14, h15, h16, h17, h18, h19, h20, h21, h22, h23, h24, h25, h26, h27, h28, h29, h30, h31, h32, h33, h34, h35, h36, h37, h38, h39, h40, h41, h42, h43, h44, h45, h46, h47, h48, h49, h50, h51⟩ ls hl
set_option maxHeartbeats 4000000 in
set_option maxRecDepth 100000 in
theorem case_10 {p : Program} {l : Launch} {e : Env} {s : State} {m : MethodId} {below : List Frame} {meth : Method} {c : Code} {D : va_G} {cI cJ cZ : ClassId} {a : Nat → Nat} {b L : Nat} {xs : Nat → Int32} (C0 : lw_At p s m meth c b L xs) (X : Cx yL_law code 4 ret D cI cJ cZ p s m #[Value.ref b] meth c) (i : Nat) (hi : i + 5 < L) (hL : L ≤ 3072) (tx_length : Int32) (tx_bytes : Nat → Int32) (ro_pupils : Int32) (ro_mood : Int32) (ro_letters : Nat → Int32) (ro_rows : Nat → Int32) (ro_columns : Nat → Int32) (ro_tenths : Nat → Int32) (ro_needs : Nat → Int32) (ro_toldDares : Nat → Int32) (le_seed : Int64) (le_questions : Int32) (le_rightOnes : Int32) (le_wrongOnes : Int32) (le_isKept : Int32) (le_dares : Nat → Int32) (le_times : Nat → Int32) (ha_cells : Nat → Int64) (ch_pupils : Int32) (ch_rule : Int32) (ch_ranks : Nat → Int32) (ch_eligible : Nat → Int32) (ch_eligibleAndRight : Nat → Int32) (ch_cells : Nat → Int64) (s1_seed : Int64) (s1_questions : Int32) (s1_rightOnes : Int32) (s1_wrongOnes : Int32) (s1_isKept : Int32) (s1_dares : Nat → Int32) (s1_times : Nat → Int32) (s2_seed : Int64) (s2_questions : Int32) (s2_rightOnes : Int32) (s2_wrongOnes : Int32) (s2_isKept : Int32) (s2_dares : Nat → Int32) (s2_times : Nat → Int32) (ta_size : Int32) (ta_hands : Nat → Int32) (ta_ones : Nat → Int32) (ta_cells : Nat → Int64) (tr_waited : Int32) (tr_size : Int32) (tr_hands : Nat → Int32) (m_readMany : Int32) (m_pupils : Int32) (m_mood : Int32) (m_length : Int32) (m_at : Int32) (m_faultAt : Int32) (m_drawn : Int64) (m_questions : Int32) (m_rights : Int32) (m_wrongs : Int32) (m_tapes : Int32) (m_trials : Int32) (m_read : Nat → Int32) (m_pupil : Nat → Int32) (m_dares : Nat → Int32) (m_times : Nat → Int32) (m_text : Nat → Int32) (m_joint : Nat → Int64) (m_others : Nat → Int64) (m_tapeHands : Nat → Int32) (m_tapeTaken : Nat → Int32) (m_trialHands : Nat → Int32) (m_trialWaited : Nat → Int32) (m_isKept : Nat → Int32) (m_keptDares : Nat → Int32) (m_keptTimes : Nat → Int32) (m_keptDrawn : Nat → Int64) (m_keptLesson : Nat → Int32) (hR : Rel i tx_length tx_bytes ro_pupils ro_mood ro_letters ro_rows ro_columns ro_tenths ro_needs ro_toldDares le_seed le_questions le_rightOnes le_wrongOnes le_dares le_times s1_seed s1_questions s1_rightOnes s1_wrongOnes s1_isKept s1_dares s1_times s2_seed s2_questions s2_rightOnes s2_wrongOnes s2_isKept s2_dares s2_times ta_size ta_hands ta_ones tr_waited tr_size tr_hands m_pupils m_mood m_length m_drawn m_questions m_rights m_wrongs m_tapes m_trials m_pupil m_dares m_times m_text m_tapeHands m_tapeTaken m_trialHands m_trialWaited m_isKept m_keptDares m_keptTimes m_keptDrawn m_keptLesson) (ws0 : va_W) (H : Heap) (locs : List Loc) (hP : va_P D vwCl ws0 H) (hD : va_D (fun q : Nat => s.heap.size ≤ q) ws0) (hS : va_S (fun q : Nat => s.heap.size ≤ q) s.heap H locs) (hw : wAll a cI cJ cZ ws0 tx_length tx_bytes ro_pupils ro_mood ro_letters ro_rows ro_columns ro_tenths ro_needs ro_toldDares le_seed le_questions le_rightOnes le_wrongOnes le_isKept le_dares le_times ha_cells ch_pupils ch_rule ch_ranks ch_eligible ch_eligibleAndRight ch_cells s1_seed s1_questions s1_rightOnes s1_wrongOnes s1_isKept s1_dares s1_times s2_seed s2_questions s2_rightOnes s2_wrongOnes s2_isKept s2_dares s2_times ta_size ta_hands ta_ones ta_cells tr_waited tr_size tr_hands m_readMany m_pupils m_mood m_length m_at m_faultAt m_drawn m_questions m_rights m_wrongs m_tapes m_trials m_read m_pupil m_dares m_times m_text m_joint m_others m_tapeHands m_tapeTaken m_trialHands m_trialWaited m_isKept m_keptDares m_keptTimes m_keptDrawn m_keptLesson) (ls : Array Slot) (hl : lv_has ls 4 [(0, .ref b), (1, .ref (a 0)), (2, .ref (a 35)), (3, .int (nI i))]) (KK : ∀ (tx_length : Int32) (tx_bytes : Nat → Int32) (ro_pupils : Int32) (ro_mood : Int32) (ro_letters : Nat → Int32) (ro_rows : Nat → Int32) (ro_columns : Nat → Int32) (ro_tenths : Nat → Int32) (ro_needs : Nat → Int32) (ro_toldDares : Nat → Int32) (le_seed : Int64) (le_questions : Int32) (le_rightOnes : Int32) (le_wrongOnes : Int32) (le_isKept : Int32) (le_dares : Nat → Int32) (le_times : Nat → Int32) (ha_cells : Nat → Int64) (ch_pupils : Int32) (ch_rule : Int32) (ch_ranks : Nat → Int32) (ch_eligible : Nat → Int32) (ch_eligibleAndRight : Nat → Int32) (ch_cells : Nat → Int64) (s1_seed : Int64) (s1_questions : Int32) (s1_rightOnes : Int32) (s1_wrongOnes : Int32) (s1_isKept : Int32) (s1_dares : Nat → Int32) (s1_times : Nat → Int32) (s2_seed : Int64) (s2_questions : Int32) (s2_rightOnes : Int32) (s2_wrongOnes : Int32) (s2_isKept : Int32) (s2_dares : Nat → Int32) (s2_times : Nat → Int32) (ta_size : Int32) (ta_hands : Nat → Int32) (ta_ones : Nat → Int32) (ta_cells : Nat → Int64) (tr_waited : Int32) (tr_size : Int32) (tr_hands : Nat → Int32) (m_readMany : Int32) (m_pupils : Int32) (m_mood : Int32) (m_length : Int32) (m_at : Int32) (m_faultAt : Int32) (m_drawn : Int64) (m_questions : Int32) (m_rights : Int32) (m_wrongs : Int32) (m_tapes : Int32) (m_trials : Int32) (m_read : Nat → Int32) (m_pupil : Nat → Int32) (m_dares : Nat → Int32) (m_times : Nat → Int32) (m_text : Nat → Int32) (m_joint : Nat → Int64) (m_others : Nat → Int64) (m_tapeHands : Nat → Int32) (m_tapeTaken : Nat → Int32) (m_trialHands : Nat → Int32) (m_trialWaited : Nat → Int32) (m_isKept : Nat → Int32) (m_keptDares : Nat → Int32) (m_keptTimes : Nat → Int32) (m_keptDrawn : Nat → Int64) (m_keptLesson : Nat → Int32), Rel (i + 1) tx_length tx_bytes ro_pupils ro_mood ro_letters ro_rows ro_columns ro_tenths ro_needs ro_toldDares le_seed le_questions le_rightOnes le_wrongOnes le_dares le_times s1_seed s1_questions s1_rightOnes s1_wrongOnes s1_isKept s1_dares s1_times s2_seed s2_questions s2_rightOnes s2_wrongOnes s2_isKept s2_dares s2_times ta_size ta_hands ta_ones tr_waited tr_size tr_hands m_pupils m_mood m_length m_drawn m_questions m_rights m_wrongs m_tapes m_trials m_pupil m_dares m_times m_text m_tapeHands m_tapeTaken m_trialHands m_trialWaited m_isKept m_keptDares m_keptTimes m_keptDrawn m_keptLesson → ∀ (w : va_W) (H : Heap) (locs : List Loc), va_P D vwCl w H → va_D (fun q : Nat => s.heap.size ≤ q) w → va_S (fun q : Nat => s.heap.size ≤ q) s.heap H locs → wAll a cI cJ cZ w tx_length tx_bytes ro_pupils ro_mood ro_letters ro_rows ro_columns ro_tenths ro_needs ro_toldDares le_seed le_questions le_rightOnes le_wrongOnes le_isKept le_dares le_times ha_cells ch_pupils ch_rule ch_ranks ch_eligible ch_eligibleAndRight ch_cells s1_seed s1_questions s1_rightOnes s1_wrongOnes s1_isKept s1_dares s1_times s2_seed s2_questions s2_rightOnes s2_wrongOnes s2_isKept s2_dares s2_times ta_size ta_hands ta_ones ta_cells tr_waited tr_size tr_hands m_readMany m_pupils m_mood m_length m_at m_faultAt m_drawn m_questions m_rights m_wrongs m_tapes m_trials m_read m_pupil m_dares m_times m_text m_joint m_others m_tapeHands m_tapeTaken m_trialHands m_trialWaited m_isKept m_keptDares m_keptTimes m_keptDrawn m_keptLesson → ∀ ls : Array Slot, lv_has ls 4 [(0, .ref b), (1, .ref (a 0)), (2, .ref (a 35)), (3, .int (nI i))] → W p l e room_1 s m #[Value.ref b] below meth c H locs 52 1402 (lw_Z below #[Value.ref b] s) (F0 m 1535 ls [])) : W p l e room_1 s m #[Value.ref b] below meth c H locs 52 1402 (lw_Z below #[Value.ref b] s) (F0 m 485 ls []) := by
  obtain ⟨-, -, -, -, -, -, hX, hbl, -, -⟩ := C0
  obtain ⟨hx, hb, hr, hml, hown, hts, hlk, hK, hN⟩ := id X
  have hown : s.vm.findClass RL = some m.cls := hown
  have hbA : ¬ (fun q : Nat => s.heap.size ≤ q) b := Nat.not_le.mpr hbl
  obtain ⟨h0, h1, h2, h3, h4, h5, h6, h7, h8, h9, h10, h11, h12, h13, h14, h15, h16, h17, h18, h19, h20, h21, h22, h23, h24, h25, h26, h27, h28, h29, h30, h31, h32, h33, h34, h35, h36, h37, h38, h39, h40, h41, h42, h43, h44, h45, h46, h47, h48, h49, h50, h51⟩ := hw
  have i1 : vp_in (nI i + (1 : Int32)) L := by rw [show (1 : Int32) = nI 1 from rfl, nI_add]; exact vp_in_nI (by omega) (by omega)
  have i2 : vp_in (nI i + (2 : Int32)) L := by rw [show (2 : Int32) = nI 2 from rfl, nI_add]; exact vp_in_nI (by omega) (by omega)
  have i3 : vp_in (nI i + (3 : Int32)) L := by rw [show (3 : Int32) = nI 3 from rfl, nI_add]; exact vp_in_nI (by omega) (by omega)
  have i4 : vp_in (nI i + (4 : Int32)) L := by rw [show (4 : Int32) = nI 4 from rfl, nI_add]; exact vp_in_nI (by omega) (by omega)
  have i5 : vp_in (nI i + (5 : Int32)) L := by rw [show (5 : Int32) = nI 5 from rfl, nI_add]; exact vp_in_nI (by omega) (by omega)
  by_cases hz : xs (nI i + (4 : Int32)).toNatClampNeg = 0
  · obtain ⟨u, v, hu, hv, he, hR2⟩ := P_given i (by omega) tx_length tx_bytes ro_pupils ro_mood ro_letters ro_rows ro_columns ro_tenths ro_needs ro_toldDares le_seed le_questions le_rightOnes le_wrongOnes le_isKept le_dares le_times ha_cells ch_pupils ch_rule ch_ranks ch_eligible ch_eligibleAndRight ch_cells s1_seed s1_questions s1_rightOnes s1_wrongOnes s1_isKept s1_dares s1_times s2_seed s2_questions s2_rightOnes s2_wrongOnes s2_isKept s2_dares s2_times ta_size ta_hands ta_ones ta_cells tr_waited tr_size tr_hands m_readMany m_pupils m_mood m_length m_at m_faultAt m_drawn m_questions m_rights m_wrongs m_tapes m_trials m_read m_pupil m_dares m_times m_text m_joint m_others m_tapeHands m_tapeTaken m_trialHands m_trialWaited m_isKept m_keptDares m_keptTimes m_keptDrawn m_keptLesson (xs (nI i + (1 : Int32)).toNatClampNeg) (xs (nI i + (2 : Int32)).toNatClampNeg) (xs (nI i + (3 : Int32)).toNatClampNeg) (0 : Int32) (by decide) hR
    refine lv_aload_n hx hb dL_law_485 rfl (lv_at hl 1 rfl) ?_
    refine lv_aload_n hx hb dL_law_486 rfl (lv_at hl 0 rfl) ?_
    refine lv_iload_n hx hb dL_law_487 rfl (lv_at hl 3 rfl) ?_
    refine lv_iconst (v := (1 : Int32)) hx hb dL_law_488 (by decide) ?_
    refine lv_iadd hx hb dL_law_489 ?_
    refine va_sld hx hb hX hbl hbA hS i1 dL_law_490 ?_
    refine lv_aload_n hx hb dL_law_491 rfl (lv_at hl 0 rfl) ?_
    refine lv_iload_n hx hb dL_law_492 rfl (lv_at hl 3 rfl) ?_
    refine lv_iconst (v := (2 : Int32)) hx hb dL_law_493 (by decide) ?_
    refine lv_iadd hx hb dL_law_494 ?_
    refine va_sld hx hb hX hbl hbA hS i2 dL_law_495 ?_
    refine lv_aload_n hx hb dL_law_496 rfl (lv_at hl 0 rfl) ?_
    refine lv_iload_n hx hb dL_law_497 rfl (lv_at hl 3 rfl) ?_
    refine lv_iconst (v := (3 : Int32)) hx hb dL_law_498 (by decide) ?_
    refine lv_iadd hx hb dL_law_499 ?_
    refine va_sld hx hb hX hbl hbA hS i3 dL_law_500 ?_
    refine lv_aload_n hx hb dL_law_501 rfl (lv_at hl 0 rfl) ?_
    refine lv_iload_n hx hb dL_law_502 rfl (lv_at hl 3 rfl) ?_
    refine lv_iconst (v := (4 : Int32)) hx hb dL_law_503 (by decide) ?_
    refine lv_iadd hx hb dL_law_504 ?_
    refine va_sld hx hb hX hbl hbA hS i4 dL_law_505 ?_
    refine lv_if_eq (tgt := 513) hx hb dL_law_506 (by decide) (fun _ => ?_) (fun q => absurd hz q)
    refine lv_iconst (v := (0 : Int32)) hx hb dL_law_513 (by decide) ?_
    refine wr_l (runV (As := [.int (xs (nI i + (1 : Int32)).toNatClampNeg), .int (xs (nI i + (2 : Int32)).toNatClampNeg), .int (xs (nI i + (3 : Int32)).toNatClampNeg), .int (0 : Int32)]) (rest := []) X cq_X8_given lk_L_60 (c_X8_given l D cI cJ cZ a ws0 (fun q : Nat => s.heap.size ≤ q) ro_pupils ro_mood ro_letters ro_tenths ro_needs le_seed le_questions le_rightOnes le_wrongOnes le_isKept le_dares ha_cells (xs (nI i + (1 : Int32)).toNatClampNeg) (xs (nI i + (2 : Int32)).toNatClampNeg) (xs (nI i + (3 : Int32)).toNatClampNeg) (0 : Int32) u hu h0 h3 h4 h7 h8 h10 h11 h13 h14 h15 hD) rfl rfl ⟨Nat.le_of_ble_eq_true rfl, Nat.le_of_ble_eq_true rfl⟩ hP h0 rfl rfl hl.1 rfl (Nat.le_of_ble_eq_true rfl) dL_law_514 ⟨Nat.le_of_ble_eq_true rfl, Nat.le_of_ble_eq_true rfl⟩) hS (fun w1 H locs hP hD hk hB hS => ?_)
    have h15 : w1[15]? = some (a 15, .inl (cJ, 169, .inr (.inl u.2))) := hB
    have h0 := (hk 0 (by decide)).trans h0
    have h1 := (hk 1 (by decide)).trans h1
    have h2 := (hk 2 (by decide)).trans h2
    have h3 := (hk 3 (by decide)).trans h3
    have h4 := (hk 4 (by decide)).trans h4
    have h5 := (hk 5 (by decide)).trans h5
    have h6 := (hk 6 (by decide)).trans h6
    have h7 := (hk 7 (by decide)).trans h7
    have h8 := (hk 8 (by decide)).trans h8
    have h9 := (hk 9 (by decide)).trans h9
    have h10 := (hk 10 (by decide)).trans h10
    have h11 := (hk 11 (by decide)).trans h11
    have h12 := (hk 12 (by decide)).trans h12
    have h13 := (hk 13 (by decide)).trans h13
    have h14 := (hk 14 (by decide)).trans h14
    have h16 := (hk 16 (by decide)).trans h16
    have h17 := (hk 17 (by decide)).trans h17
    have h18 := (hk 18 (by decide)).trans h18
    have h19 := (hk 19 (by decide)).trans h19
    have h20 := (hk 20 (by decide)).trans h20
    have h21 := (hk 21 (by decide)).trans h21
    have h22 := (hk 22 (by decide)).trans h22
    have h23 := (hk 23 (by decide)).trans h23
    have h24 := (hk 24 (by decide)).trans h24
    have h25 := (hk 25 (by decide)).trans h25
    have h26 := (hk 26 (by decide)).trans h26
    have h27 := (hk 27 (by decide)).trans h27
    have h28 := (hk 28 (by decide)).trans h28
    have h29 := (hk 29 (by decide)).trans h29
    have h30 := (hk 30 (by decide)).trans h30
    have h31 := (hk 31 (by decide)).trans h31
    have h32 := (hk 32 (by decide)).trans h32
    have h33 := (hk 33 (by decide)).trans h33
    have h34 := (hk 34 (by decide)).trans h34
    have h35 := (hk 35 (by decide)).trans h35
    have h36 := (hk 36 (by decide)).trans h36
    have h37 := (hk 37 (by decide)).trans h37
    have h38 := (hk 38 (by decide)).trans h38
    have h39 := (hk 39 (by decide)).trans h39
    have h40 := (hk 40 (by decide)).trans h40
    have h41 := (hk 41 (by decide)).trans h41
    have h42 := (hk 42 (by decide)).trans h42
    have h43 := (hk 43 (by decide)).trans h43
    have h44 := (hk 44 (by decide)).trans h44
    have h45 := (hk 45 (by decide)).trans h45
    have h46 := (hk 46 (by decide)).trans h46
    have h47 := (hk 47 (by decide)).trans h47
    have h48 := (hk 48 (by decide)).trans h48
    have h49 := (hk 49 (by decide)).trans h49
    have h50 := (hk 50 (by decide)).trans h50
    have h51 := (hk 51 (by decide)).trans h51
    refine lv_aload_n hx hb dL_law_517 rfl (lv_at hl 2 rfl) ?_
    refine lv_aload_n hx hb dL_law_518 rfl (lv_at hl 0 rfl) ?_
    refine lv_iload_n hx hb dL_law_519 rfl (lv_at hl 3 rfl) ?_
    refine lv_iconst (v := (1 : Int32)) hx hb dL_law_520 (by decide) ?_
    refine lv_iadd hx hb dL_law_521 ?_
    refine va_sld hx hb hX hbl hbA hS i1 dL_law_522 ?_
    refine lv_aload_n hx hb dL_law_523 rfl (lv_at hl 0 rfl) ?_
    refine lv_iload_n hx hb dL_law_524 rfl (lv_at hl 3 rfl) ?_
    refine lv_iconst (v := (2 : Int32)) hx hb dL_law_525 (by decide) ?_
    refine lv_iadd hx hb dL_law_526 ?_
    refine va_sld hx hb hX hbl hbA hS i2 dL_law_527 ?_
    refine lv_aload_n hx hb dL_law_528 rfl (lv_at hl 0 rfl) ?_
    refine lv_iload_n hx hb dL_law_529 rfl (lv_at hl 3 rfl) ?_
    refine lv_iconst (v := (3 : Int32)) hx hb dL_law_530 (by decide) ?_
    refine lv_iadd hx hb dL_law_531 ?_
    refine va_sld hx hb hX hbl hbA hS i3 dL_law_532 ?_
    refine lv_aload_n hx hb dL_law_533 rfl (lv_at hl 0 rfl) ?_
    refine lv_iload_n hx hb dL_law_534 rfl (lv_at hl 3 rfl) ?_
    refine lv_iconst (v := (4 : Int32)) hx hb dL_law_535 (by decide) ?_
    refine lv_iadd hx hb dL_law_536 ?_
    refine va_sld hx hb hX hbl hbA hS i4 dL_law_537 ?_
    refine lv_if_eq (tgt := 545) hx hb dL_law_538 (by decide) (fun _ => ?_) (fun q => absurd hz q)
    refine lv_iconst (v := (0 : Int32)) hx hb dL_law_545 (by decide) ?_
    refine wr_l (runV (As := [.int (xs (nI i + (1 : Int32)).toNatClampNeg), .int (xs (nI i + (2 : Int32)).toNatClampNeg), .int (xs (nI i + (3 : Int32)).toNatClampNeg), .int (0 : Int32)]) (rest := [.long u.1]) X cq_X9_given lk_L_64 (c_X9_given l D cI cJ cZ a w1 (fun q : Nat => s.heap.size ≤ q) m_readMany m_pupils m_mood m_length m_at m_faultAt m_drawn m_questions m_rights m_wrongs m_tapes m_trials m_pupil m_dares m_joint (xs (nI i + (1 : Int32)).toNatClampNeg) (xs (nI i + (2 : Int32)).toNatClampNeg) (xs (nI i + (3 : Int32)).toNatClampNeg) (0 : Int32) v hv h35 h37 h38 h41 hD) rfl rfl ⟨Nat.le_of_ble_eq_true rfl, Nat.le_of_ble_eq_true rfl⟩ hP h35 rfl rfl hl.1 rfl (Nat.le_of_ble_eq_true rfl) dL_law_546 ⟨Nat.le_of_ble_eq_true rfl, Nat.le_of_ble_eq_true rfl⟩) hS (fun w2 H locs hP hD hk hB hS => ?_)
    have h41 : w2[41]? = some (a 41, .inl (cJ, 169, .inr (.inl v.2))) := hB
    have h0 := (hk 0 (by decide)).trans h0
    have h1 := (hk 1 (by decide)).trans h1
    have h2 := (hk 2 (by decide)).trans h2
    have h3 := (hk 3 (by decide)).trans h3
    have h4 := (hk 4 (by decide)).trans h4
    have h5 := (hk 5 (by decide)).trans h5
    have h6 := (hk 6 (by decide)).trans h6
    have h7 := (hk 7 (by decide)).trans h7
    have h8 := (hk 8 (by decide)).trans h8
    have h9 := (hk 9 (by decide)).trans h9
    have h10 := (hk 10 (by decide)).trans h10
    have h11 := (hk 11 (by decide)).trans h11
    have h12 := (hk 12 (by decide)).trans h12
    have h13 := (hk 13 (by decide)).trans h13
    have h14 := (hk 14 (by decide)).trans h14
    have h15 := (hk 15 (by decide)).trans h15
    have h16 := (hk 16 (by decide)).trans h16
    have h17 := (hk 17 (by decide)).trans h17
    have h18 := (hk 18 (by decide)).trans h18
    have h19 := (hk 19 (by decide)).trans h19
    have h20 := (hk 20 (by decide)).trans h20
    have h21 := (hk 21 (by decide)).trans h21
    have h22 := (hk 22 (by decide)).trans h22
    have h23 := (hk 23 (by decide)).trans h23
    have h24 := (hk 24 (by decide)).trans h24
    have h25 := (hk 25 (by decide)).trans h25
    have h26 := (hk 26 (by decide)).trans h26
    have h27 := (hk 27 (by decide)).trans h27
    have h28 := (hk 28 (by decide)).trans h28
    have h29 := (hk 29 (by decide)).trans h29
    have h30 := (hk 30 (by decide)).trans h30
    have h31 := (hk 31 (by decide)).trans h31
    have h32 := (hk 32 (by decide)).trans h32
    have h33 := (hk 33 (by decide)).trans h33
    have h34 := (hk 34 (by decide)).trans h34
    have h35 := (hk 35 (by decide)).trans h35
    have h36 := (hk 36 (by decide)).trans h36
    have h37 := (hk 37 (by decide)).trans h37
    have h38 := (hk 38 (by decide)).trans h38
    have h39 := (hk 39 (by decide)).trans h39
    have h40 := (hk 40 (by decide)).trans h40
    have h42 := (hk 42 (by decide)).trans h42
    have h43 := (hk 43 (by decide)).trans h43
    have h44 := (hk 44 (by decide)).trans h44
    have h45 := (hk 45 (by decide)).trans h45
    have h46 := (hk 46 (by decide)).trans h46
    have h47 := (hk 47 (by decide)).trans h47
    have h48 := (hk 48 (by decide)).trans h48
    have h49 := (hk 49 (by decide)).trans h49
    have h50 := (hk 50 (by decide)).trans h50
    have h51 := (hk 51 (by decide)).trans h51
    refine W.lcmp hx hb dL_law_549 ?_
    refine lv_if_eq (tgt := 1535) hx hb dL_law_550 (by decide) (fun _ => ?_) (fun q => absurd ((lc_eq _ _).mpr he) q)
    exact KK tx_length tx_bytes ro_pupils ro_mood ro_letters ro_rows ro_columns ro_tenths ro_needs ro_toldDares le_seed le_questions le_rightOnes le_wrongOnes le_isKept le_dares le_times u.2 ch_pupils ch_rule ch_ranks ch_eligible ch_eligibleAndRight ch_cells s1_seed s1_questions s1_rightOnes s1_wrongOnes s1_isKept s1_dares s1_times s2_seed s2_questions s2_rightOnes s2_wrongOnes s2_isKept s2_dares s2_times ta_size ta_hands ta_ones ta_cells tr_waited tr_size tr_hands m_readMany m_pupils m_mood m_length m_at m_faultAt m_drawn m_questions m_rights m_wrongs m_tapes m_trials m_read m_pupil m_dares m_times m_text v.2 m_others m_tapeHands m_tapeTaken m_trialHands m_trialWaited m_isKept m_keptDares m_keptTimes m_keptDrawn m_keptLesson hR2 _ _ _ hP hD hS ⟨h0, h1, h2, h3, h4, h5, h6, h7, h8, h9, h10, h11, h12, h13, h14, h15, h16, h17, h18, h19, h20, h21, h22, h23, h24, h25, h26, h27, h28, h29, h30, h31, h32, h33, h34, h35, h36, h37, h38, h39, h40, h41, h42, h43, h44, h45, h46, h47, h48, h49, h50, h51⟩ ls hl
  · obtain ⟨u, v, hu, hv, he, hR2⟩ := P_given i (by omega) tx_length tx_bytes ro_pupils ro_mood ro_letters ro_rows ro_columns ro_tenths ro_needs ro_toldDares le_seed le_questions le_rightOnes le_wrongOnes le_isKept le_dares le_times ha_cells ch_pupils ch_rule ch_ranks ch_eligible ch_eligibleAndRight ch_cells s1_seed s1_questions s1_rightOnes s1_wrongOnes s1_isKept s1_dares s1_times s2_seed s2_questions s2_rightOnes s2_wrongOnes s2_isKept s2_dares s2_times ta_size ta_hands ta_ones ta_cells tr_waited tr_size tr_hands m_readMany m_pupils m_mood m_length m_at m_faultAt m_drawn m_questions m_rights m_wrongs m_tapes m_trials m_read m_pupil m_dares m_times m_text m_joint m_others m_tapeHands m_tapeTaken m_trialHands m_trialWaited m_isKept m_keptDares m_keptTimes m_keptDrawn m_keptLesson (xs (nI i + (1 : Int32)).toNatClampNeg) (xs (nI i + (2 : Int32)).toNatClampNeg) (xs (nI i + (3 : Int32)).toNatClampNeg) (1 : Int32) (by decide) hR
    refine lv_aload_n hx hb dL_law_485 rfl (lv_at hl 1 rfl) ?_
    refine lv_aload_n hx hb dL_law_486 rfl (lv_at hl 0 rfl) ?_
    refine lv_iload_n hx hb dL_law_487 rfl (lv_at hl 3 rfl) ?_
    refine lv_iconst (v := (1 : Int32)) hx hb dL_law_488 (by decide) ?_
    refine lv_iadd hx hb dL_law_489 ?_
    refine va_sld hx hb hX hbl hbA hS i1 dL_law_490 ?_
    refine lv_aload_n hx hb dL_law_491 rfl (lv_at hl 0 rfl) ?_
    refine lv_iload_n hx hb dL_law_492 rfl (lv_at hl 3 rfl) ?_
    refine lv_iconst (v := (2 : Int32)) hx hb dL_law_493 (by decide) ?_
    refine lv_iadd hx hb dL_law_494 ?_
    refine va_sld hx hb hX hbl hbA hS i2 dL_law_495 ?_
    refine lv_aload_n hx hb dL_law_496 rfl (lv_at hl 0 rfl) ?_
    refine lv_iload_n hx hb dL_law_497 rfl (lv_at hl 3 rfl) ?_
    refine lv_iconst (v := (3 : Int32)) hx hb dL_law_498 (by decide) ?_
    refine lv_iadd hx hb dL_law_499 ?_
    refine va_sld hx hb hX hbl hbA hS i3 dL_law_500 ?_
    refine lv_aload_n hx hb dL_law_501 rfl (lv_at hl 0 rfl) ?_
    refine lv_iload_n hx hb dL_law_502 rfl (lv_at hl 3 rfl) ?_
    refine lv_iconst (v := (4 : Int32)) hx hb dL_law_503 (by decide) ?_
    refine lv_iadd hx hb dL_law_504 ?_
    refine va_sld hx hb hX hbl hbA hS i4 dL_law_505 ?_
    refine lv_if_eq (tgt := 513) hx hb dL_law_506 (by decide) (fun q => absurd q hz) (fun _ => ?_)
    refine lv_iconst (v := (1 : Int32)) hx hb dL_law_509 (by decide) ?_
    refine lv_goto (tgt := 514) hx hb dL_law_510 (by decide) ?_
    refine wr_l (runV (As := [.int (xs (nI i + (1 : Int32)).toNatClampNeg), .int (xs (nI i + (2 : Int32)).toNatClampNeg), .int (xs (nI i + (3 : Int32)).toNatClampNeg), .int (1 : Int32)]) (rest := []) X cq_X8_given lk_L_60 (c_X8_given l D cI cJ cZ a ws0 (fun q : Nat => s.heap.size ≤ q) ro_pupils ro_mood ro_letters ro_tenths ro_needs le_seed le_questions le_rightOnes le_wrongOnes le_isKept le_dares ha_cells (xs (nI i + (1 : Int32)).toNatClampNeg) (xs (nI i + (2 : Int32)).toNatClampNeg) (xs (nI i + (3 : Int32)).toNatClampNeg) (1 : Int32) u hu h0 h3 h4 h7 h8 h10 h11 h13 h14 h15 hD) rfl rfl ⟨Nat.le_of_ble_eq_true rfl, Nat.le_of_ble_eq_true rfl⟩ hP h0 rfl rfl hl.1 rfl (Nat.le_of_ble_eq_true rfl) dL_law_514 ⟨Nat.le_of_ble_eq_true rfl, Nat.le_of_ble_eq_true rfl⟩) hS (fun w1 H locs hP hD hk hB hS => ?_)
    have h15 : w1[15]? = some (a 15, .inl (cJ, 169, .inr (.inl u.2))) := hB
    have h0 := (hk 0 (by decide)).trans h0
    have h1 := (hk 1 (by decide)).trans h1
    have h2 := (hk 2 (by decide)).trans h2
    have h3 := (hk 3 (by decide)).trans h3
    have h4 := (hk 4 (by decide)).trans h4
    have h5 := (hk 5 (by decide)).trans h5
    have h6 := (hk 6 (by decide)).trans h6
    have h7 := (hk 7 (by decide)).trans h7
    have h8 := (hk 8 (by decide)).trans h8
    have h9 := (hk 9 (by decide)).trans h9
    have h10 := (hk 10 (by decide)).trans h10
    have h11 := (hk 11 (by decide)).trans h11
    have h12 := (hk 12 (by decide)).trans h12
    have h13 := (hk 13 (by decide)).trans h13
    have h14 := (hk 14 (by decide)).trans h14
    have h16 := (hk 16 (by decide)).trans h16
    have h17 := (hk 17 (by decide)).trans h17
    have h18 := (hk 18 (by decide)).trans h18
    have h19 := (hk 19 (by decide)).trans h19
    have h20 := (hk 20 (by decide)).trans h20
    have h21 := (hk 21 (by decide)).trans h21
    have h22 := (hk 22 (by decide)).trans h22
    have h23 := (hk 23 (by decide)).trans h23
    have h24 := (hk 24 (by decide)).trans h24
    have h25 := (hk 25 (by decide)).trans h25
    have h26 := (hk 26 (by decide)).trans h26
    have h27 := (hk 27 (by decide)).trans h27
    have h28 := (hk 28 (by decide)).trans h28
    have h29 := (hk 29 (by decide)).trans h29
    have h30 := (hk 30 (by decide)).trans h30
    have h31 := (hk 31 (by decide)).trans h31
    have h32 := (hk 32 (by decide)).trans h32
    have h33 := (hk 33 (by decide)).trans h33
    have h34 := (hk 34 (by decide)).trans h34
    have h35 := (hk 35 (by decide)).trans h35
    have h36 := (hk 36 (by decide)).trans h36
    have h37 := (hk 37 (by decide)).trans h37
    have h38 := (hk 38 (by decide)).trans h38
    have h39 := (hk 39 (by decide)).trans h39
    have h40 := (hk 40 (by decide)).trans h40
    have h41 := (hk 41 (by decide)).trans h41
    have h42 := (hk 42 (by decide)).trans h42
    have h43 := (hk 43 (by decide)).trans h43
    have h44 := (hk 44 (by decide)).trans h44
    have h45 := (hk 45 (by decide)).trans h45
    have h46 := (hk 46 (by decide)).trans h46
    have h47 := (hk 47 (by decide)).trans h47
    have h48 := (hk 48 (by decide)).trans h48
    have h49 := (hk 49 (by decide)).trans h49
    have h50 := (hk 50 (by decide)).trans h50
    have h51 := (hk 51 (by decide)).trans h51
    refine lv_aload_n hx hb dL_law_517 rfl (lv_at hl 2 rfl) ?_
    refine lv_aload_n hx hb dL_law_518 rfl (lv_at hl 0 rfl) ?_
    refine lv_iload_n hx hb dL_law_519 rfl (lv_at hl 3 rfl) ?_
    refine lv_iconst (v := (1 : Int32)) hx hb dL_law_520 (by decide) ?_
    refine lv_iadd hx hb dL_law_521 ?_
    refine va_sld hx hb hX hbl hbA hS i1 dL_law_522 ?_
    refine lv_aload_n hx hb dL_law_523 rfl (lv_at hl 0 rfl) ?_
    refine lv_iload_n hx hb dL_law_524 rfl (lv_at hl 3 rfl) ?_
    refine lv_iconst (v := (2 : Int32)) hx hb dL_law_525 (by decide) ?_
    refine lv_iadd hx hb dL_law_526 ?_
    refine va_sld hx hb hX hbl hbA hS i2 dL_law_527 ?_
    refine lv_aload_n hx hb dL_law_528 rfl (lv_at hl 0 rfl) ?_
    refine lv_iload_n hx hb dL_law_529 rfl (lv_at hl 3 rfl) ?_
    refine lv_iconst (v := (3 : Int32)) hx hb dL_law_530 (by decide) ?_
    refine lv_iadd hx hb dL_law_531 ?_
    refine va_sld hx hb hX hbl hbA hS i3 dL_law_532 ?_
    refine lv_aload_n hx hb dL_law_533 rfl (lv_at hl 0 rfl) ?_
    refine lv_iload_n hx hb dL_law_534 rfl (lv_at hl 3 rfl) ?_
    refine lv_iconst (v := (4 : Int32)) hx hb dL_law_535 (by decide) ?_
    refine lv_iadd hx hb dL_law_536 ?_
    refine va_sld hx hb hX hbl hbA hS i4 dL_law_537 ?_
    refine lv_if_eq (tgt := 545) hx hb dL_law_538 (by decide) (fun q => absurd q hz) (fun _ => ?_)
    refine lv_iconst (v := (1 : Int32)) hx hb dL_law_541 (by decide) ?_
    refine lv_goto (tgt := 546) hx hb dL_law_542 (by decide) ?_
    refine wr_l (runV (As := [.int (xs (nI i + (1 : Int32)).toNatClampNeg), .int (xs (nI i + (2 : Int32)).toNatClampNeg), .int (xs (nI i + (3 : Int32)).toNatClampNeg), .int (1 : Int32)]) (rest := [.long u.1]) X cq_X9_given lk_L_64 (c_X9_given l D cI cJ cZ a w1 (fun q : Nat => s.heap.size ≤ q) m_readMany m_pupils m_mood m_length m_at m_faultAt m_drawn m_questions m_rights m_wrongs m_tapes m_trials m_pupil m_dares m_joint (xs (nI i + (1 : Int32)).toNatClampNeg) (xs (nI i + (2 : Int32)).toNatClampNeg) (xs (nI i + (3 : Int32)).toNatClampNeg) (1 : Int32) v hv h35 h37 h38 h41 hD) rfl rfl ⟨Nat.le_of_ble_eq_true rfl, Nat.le_of_ble_eq_true rfl⟩ hP h35 rfl rfl hl.1 rfl (Nat.le_of_ble_eq_true rfl) dL_law_546 ⟨Nat.le_of_ble_eq_true rfl, Nat.le_of_ble_eq_true rfl⟩) hS (fun w2 H locs hP hD hk hB hS => ?_)
    have h41 : w2[41]? = some (a 41, .inl (cJ, 169, .inr (.inl v.2))) := hB
    have h0 := (hk 0 (by decide)).trans h0
    have h1 := (hk 1 (by decide)).trans h1
    have h2 := (hk 2 (by decide)).trans h2
    have h3 := (hk 3 (by decide)).trans h3
    have h4 := (hk 4 (by decide)).trans h4
    have h5 := (hk 5 (by decide)).trans h5
    have h6 := (hk 6 (by decide)).trans h6
    have h7 := (hk 7 (by decide)).trans h7
    have h8 := (hk 8 (by decide)).trans h8
    have h9 := (hk 9 (by decide)).trans h9
    have h10 := (hk 10 (by decide)).trans h10
    have h11 := (hk 11 (by decide)).trans h11
    have h12 := (hk 12 (by decide)).trans h12
    have h13 := (hk 13 (by decide)).trans h13
    have h14 := (hk 14 (by decide)).trans h14
    have h15 := (hk 15 (by decide)).trans h15
    have h16 := (hk 16 (by decide)).trans h16
    have h17 := (hk 17 (by decide)).trans h17
    have h18 := (hk 18 (by decide)).trans h18
    have h19 := (hk 19 (by decide)).trans h19
    have h20 := (hk 20 (by decide)).trans h20
    have h21 := (hk 21 (by decide)).trans h21
    have h22 := (hk 22 (by decide)).trans h22
    have h23 := (hk 23 (by decide)).trans h23
    have h24 := (hk 24 (by decide)).trans h24
    have h25 := (hk 25 (by decide)).trans h25
    have h26 := (hk 26 (by decide)).trans h26
    have h27 := (hk 27 (by decide)).trans h27
    have h28 := (hk 28 (by decide)).trans h28
    have h29 := (hk 29 (by decide)).trans h29
    have h30 := (hk 30 (by decide)).trans h30
    have h31 := (hk 31 (by decide)).trans h31
    have h32 := (hk 32 (by decide)).trans h32
    have h33 := (hk 33 (by decide)).trans h33
    have h34 := (hk 34 (by decide)).trans h34
    have h35 := (hk 35 (by decide)).trans h35
    have h36 := (hk 36 (by decide)).trans h36
    have h37 := (hk 37 (by decide)).trans h37
    have h38 := (hk 38 (by decide)).trans h38
    have h39 := (hk 39 (by decide)).trans h39
    have h40 := (hk 40 (by decide)).trans h40
    have h42 := (hk 42 (by decide)).trans h42
    have h43 := (hk 43 (by decide)).trans h43
    have h44 := (hk 44 (by decide)).trans h44
    have h45 := (hk 45 (by decide)).trans h45
    have h46 := (hk 46 (by decide)).trans h46
    have h47 := (hk 47 (by decide)).trans h47
    have h48 := (hk 48 (by decide)).trans h48
    have h49 := (hk 49 (by decide)).trans h49
    have h50 := (hk 50 (by decide)).trans h50
    have h51 := (hk 51 (by decide)).trans h51
    refine W.lcmp hx hb dL_law_549 ?_
    refine lv_if_eq (tgt := 1535) hx hb dL_law_550 (by decide) (fun _ => ?_) (fun q => absurd ((lc_eq _ _).mpr he) q)
    exact KK tx_length tx_bytes ro_pupils ro_mood ro_letters ro_rows ro_columns ro_tenths ro_needs ro_toldDares le_seed le_questions le_rightOnes le_wrongOnes le_isKept le_dares le_times u.2 ch_pupils ch_rule ch_ranks ch_eligible ch_eligibleAndRight ch_cells s1_seed s1_questions s1_rightOnes s1_wrongOnes s1_isKept s1_dares s1_times s2_seed s2_questions s2_rightOnes s2_wrongOnes s2_isKept s2_dares s2_times ta_size ta_hands ta_ones ta_cells tr_waited tr_size tr_hands m_readMany m_pupils m_mood m_length m_at m_faultAt m_drawn m_questions m_rights m_wrongs m_tapes m_trials m_read m_pupil m_dares m_times m_text v.2 m_others m_tapeHands m_tapeTaken m_trialHands m_trialWaited m_isKept m_keptDares m_keptTimes m_keptDrawn m_keptLesson hR2 _ _ _ hP hD hS ⟨h0, h1, h2, h3, h4, h5, h6, h7, h8, h9, h10, h11, h12, h13, h14, h15, h16, h17, h18, h19, h20, h21, h22, h23, h24, h25, h26, h27, h28, h29, h30, h31, h32, h33, h34, h35, h36, h37, h38, h39, h40, h41, h42, h43, h44, h45, h46, h47, h48, h49, h50, h51⟩ ls hl
set_option maxHeartbeats 4000000 in
set_option maxRecDepth 100000 in
theorem case_11 {p : Program} {l : Launch} {e : Env} {s : State} {m : MethodId} {below : List Frame} {meth : Method} {c : Code} {D : va_G} {cI cJ cZ : ClassId} {a : Nat → Nat} {b L : Nat} {xs : Nat → Int32} (C0 : lw_At p s m meth c b L xs) (X : Cx yL_law code 4 ret D cI cJ cZ p s m #[Value.ref b] meth c) (i : Nat) (hi : i + 5 < L) (hL : L ≤ 3072) (tx_length : Int32) (tx_bytes : Nat → Int32) (ro_pupils : Int32) (ro_mood : Int32) (ro_letters : Nat → Int32) (ro_rows : Nat → Int32) (ro_columns : Nat → Int32) (ro_tenths : Nat → Int32) (ro_needs : Nat → Int32) (ro_toldDares : Nat → Int32) (le_seed : Int64) (le_questions : Int32) (le_rightOnes : Int32) (le_wrongOnes : Int32) (le_isKept : Int32) (le_dares : Nat → Int32) (le_times : Nat → Int32) (ha_cells : Nat → Int64) (ch_pupils : Int32) (ch_rule : Int32) (ch_ranks : Nat → Int32) (ch_eligible : Nat → Int32) (ch_eligibleAndRight : Nat → Int32) (ch_cells : Nat → Int64) (s1_seed : Int64) (s1_questions : Int32) (s1_rightOnes : Int32) (s1_wrongOnes : Int32) (s1_isKept : Int32) (s1_dares : Nat → Int32) (s1_times : Nat → Int32) (s2_seed : Int64) (s2_questions : Int32) (s2_rightOnes : Int32) (s2_wrongOnes : Int32) (s2_isKept : Int32) (s2_dares : Nat → Int32) (s2_times : Nat → Int32) (ta_size : Int32) (ta_hands : Nat → Int32) (ta_ones : Nat → Int32) (ta_cells : Nat → Int64) (tr_waited : Int32) (tr_size : Int32) (tr_hands : Nat → Int32) (m_readMany : Int32) (m_pupils : Int32) (m_mood : Int32) (m_length : Int32) (m_at : Int32) (m_faultAt : Int32) (m_drawn : Int64) (m_questions : Int32) (m_rights : Int32) (m_wrongs : Int32) (m_tapes : Int32) (m_trials : Int32) (m_read : Nat → Int32) (m_pupil : Nat → Int32) (m_dares : Nat → Int32) (m_times : Nat → Int32) (m_text : Nat → Int32) (m_joint : Nat → Int64) (m_others : Nat → Int64) (m_tapeHands : Nat → Int32) (m_tapeTaken : Nat → Int32) (m_trialHands : Nat → Int32) (m_trialWaited : Nat → Int32) (m_isKept : Nat → Int32) (m_keptDares : Nat → Int32) (m_keptTimes : Nat → Int32) (m_keptDrawn : Nat → Int64) (m_keptLesson : Nat → Int32) (hR : Rel i tx_length tx_bytes ro_pupils ro_mood ro_letters ro_rows ro_columns ro_tenths ro_needs ro_toldDares le_seed le_questions le_rightOnes le_wrongOnes le_dares le_times s1_seed s1_questions s1_rightOnes s1_wrongOnes s1_isKept s1_dares s1_times s2_seed s2_questions s2_rightOnes s2_wrongOnes s2_isKept s2_dares s2_times ta_size ta_hands ta_ones tr_waited tr_size tr_hands m_pupils m_mood m_length m_drawn m_questions m_rights m_wrongs m_tapes m_trials m_pupil m_dares m_times m_text m_tapeHands m_tapeTaken m_trialHands m_trialWaited m_isKept m_keptDares m_keptTimes m_keptDrawn m_keptLesson) (ws0 : va_W) (H : Heap) (locs : List Loc) (hP : va_P D vwCl ws0 H) (hD : va_D (fun q : Nat => s.heap.size ≤ q) ws0) (hS : va_S (fun q : Nat => s.heap.size ≤ q) s.heap H locs) (hw : wAll a cI cJ cZ ws0 tx_length tx_bytes ro_pupils ro_mood ro_letters ro_rows ro_columns ro_tenths ro_needs ro_toldDares le_seed le_questions le_rightOnes le_wrongOnes le_isKept le_dares le_times ha_cells ch_pupils ch_rule ch_ranks ch_eligible ch_eligibleAndRight ch_cells s1_seed s1_questions s1_rightOnes s1_wrongOnes s1_isKept s1_dares s1_times s2_seed s2_questions s2_rightOnes s2_wrongOnes s2_isKept s2_dares s2_times ta_size ta_hands ta_ones ta_cells tr_waited tr_size tr_hands m_readMany m_pupils m_mood m_length m_at m_faultAt m_drawn m_questions m_rights m_wrongs m_tapes m_trials m_read m_pupil m_dares m_times m_text m_joint m_others m_tapeHands m_tapeTaken m_trialHands m_trialWaited m_isKept m_keptDares m_keptTimes m_keptDrawn m_keptLesson) (ls : Array Slot) (hl : lv_has ls 4 [(0, .ref b), (1, .ref (a 0)), (2, .ref (a 35)), (3, .int (nI i))]) (KK : ∀ (tx_length : Int32) (tx_bytes : Nat → Int32) (ro_pupils : Int32) (ro_mood : Int32) (ro_letters : Nat → Int32) (ro_rows : Nat → Int32) (ro_columns : Nat → Int32) (ro_tenths : Nat → Int32) (ro_needs : Nat → Int32) (ro_toldDares : Nat → Int32) (le_seed : Int64) (le_questions : Int32) (le_rightOnes : Int32) (le_wrongOnes : Int32) (le_isKept : Int32) (le_dares : Nat → Int32) (le_times : Nat → Int32) (ha_cells : Nat → Int64) (ch_pupils : Int32) (ch_rule : Int32) (ch_ranks : Nat → Int32) (ch_eligible : Nat → Int32) (ch_eligibleAndRight : Nat → Int32) (ch_cells : Nat → Int64) (s1_seed : Int64) (s1_questions : Int32) (s1_rightOnes : Int32) (s1_wrongOnes : Int32) (s1_isKept : Int32) (s1_dares : Nat → Int32) (s1_times : Nat → Int32) (s2_seed : Int64) (s2_questions : Int32) (s2_rightOnes : Int32) (s2_wrongOnes : Int32) (s2_isKept : Int32) (s2_dares : Nat → Int32) (s2_times : Nat → Int32) (ta_size : Int32) (ta_hands : Nat → Int32) (ta_ones : Nat → Int32) (ta_cells : Nat → Int64) (tr_waited : Int32) (tr_size : Int32) (tr_hands : Nat → Int32) (m_readMany : Int32) (m_pupils : Int32) (m_mood : Int32) (m_length : Int32) (m_at : Int32) (m_faultAt : Int32) (m_drawn : Int64) (m_questions : Int32) (m_rights : Int32) (m_wrongs : Int32) (m_tapes : Int32) (m_trials : Int32) (m_read : Nat → Int32) (m_pupil : Nat → Int32) (m_dares : Nat → Int32) (m_times : Nat → Int32) (m_text : Nat → Int32) (m_joint : Nat → Int64) (m_others : Nat → Int64) (m_tapeHands : Nat → Int32) (m_tapeTaken : Nat → Int32) (m_trialHands : Nat → Int32) (m_trialWaited : Nat → Int32) (m_isKept : Nat → Int32) (m_keptDares : Nat → Int32) (m_keptTimes : Nat → Int32) (m_keptDrawn : Nat → Int64) (m_keptLesson : Nat → Int32), Rel (i + 1) tx_length tx_bytes ro_pupils ro_mood ro_letters ro_rows ro_columns ro_tenths ro_needs ro_toldDares le_seed le_questions le_rightOnes le_wrongOnes le_dares le_times s1_seed s1_questions s1_rightOnes s1_wrongOnes s1_isKept s1_dares s1_times s2_seed s2_questions s2_rightOnes s2_wrongOnes s2_isKept s2_dares s2_times ta_size ta_hands ta_ones tr_waited tr_size tr_hands m_pupils m_mood m_length m_drawn m_questions m_rights m_wrongs m_tapes m_trials m_pupil m_dares m_times m_text m_tapeHands m_tapeTaken m_trialHands m_trialWaited m_isKept m_keptDares m_keptTimes m_keptDrawn m_keptLesson → ∀ (w : va_W) (H : Heap) (locs : List Loc), va_P D vwCl w H → va_D (fun q : Nat => s.heap.size ≤ q) w → va_S (fun q : Nat => s.heap.size ≤ q) s.heap H locs → wAll a cI cJ cZ w tx_length tx_bytes ro_pupils ro_mood ro_letters ro_rows ro_columns ro_tenths ro_needs ro_toldDares le_seed le_questions le_rightOnes le_wrongOnes le_isKept le_dares le_times ha_cells ch_pupils ch_rule ch_ranks ch_eligible ch_eligibleAndRight ch_cells s1_seed s1_questions s1_rightOnes s1_wrongOnes s1_isKept s1_dares s1_times s2_seed s2_questions s2_rightOnes s2_wrongOnes s2_isKept s2_dares s2_times ta_size ta_hands ta_ones ta_cells tr_waited tr_size tr_hands m_readMany m_pupils m_mood m_length m_at m_faultAt m_drawn m_questions m_rights m_wrongs m_tapes m_trials m_read m_pupil m_dares m_times m_text m_joint m_others m_tapeHands m_tapeTaken m_trialHands m_trialWaited m_isKept m_keptDares m_keptTimes m_keptDrawn m_keptLesson → ∀ ls : Array Slot, lv_has ls 4 [(0, .ref b), (1, .ref (a 0)), (2, .ref (a 35)), (3, .int (nI i))] → W p l e room_1 s m #[Value.ref b] below meth c H locs 52 1402 (lw_Z below #[Value.ref b] s) (F0 m 1535 ls [])) : W p l e room_1 s m #[Value.ref b] below meth c H locs 52 1402 (lw_Z below #[Value.ref b] s) (F0 m 555 ls []) := by
  obtain ⟨-, -, -, -, -, -, hX, hbl, -, -⟩ := C0
  obtain ⟨hx, hb, hr, hml, hown, hts, hlk, hK, hN⟩ := id X
  have hown : s.vm.findClass RL = some m.cls := hown
  have hbA : ¬ (fun q : Nat => s.heap.size ≤ q) b := Nat.not_le.mpr hbl
  obtain ⟨h0, h1, h2, h3, h4, h5, h6, h7, h8, h9, h10, h11, h12, h13, h14, h15, h16, h17, h18, h19, h20, h21, h22, h23, h24, h25, h26, h27, h28, h29, h30, h31, h32, h33, h34, h35, h36, h37, h38, h39, h40, h41, h42, h43, h44, h45, h46, h47, h48, h49, h50, h51⟩ := hw
  have i1 : vp_in (nI i + (1 : Int32)) L := by rw [show (1 : Int32) = nI 1 from rfl, nI_add]; exact vp_in_nI (by omega) (by omega)
  have i2 : vp_in (nI i + (2 : Int32)) L := by rw [show (2 : Int32) = nI 2 from rfl, nI_add]; exact vp_in_nI (by omega) (by omega)
  have i3 : vp_in (nI i + (3 : Int32)) L := by rw [show (3 : Int32) = nI 3 from rfl, nI_add]; exact vp_in_nI (by omega) (by omega)
  have i4 : vp_in (nI i + (4 : Int32)) L := by rw [show (4 : Int32) = nI 4 from rfl, nI_add]; exact vp_in_nI (by omega) (by omega)
  have i5 : vp_in (nI i + (5 : Int32)) L := by rw [show (5 : Int32) = nI 5 from rfl, nI_add]; exact vp_in_nI (by omega) (by omega)
  obtain ⟨u, v, hu, hv, he, hR2⟩ := P_likely i (by omega) tx_length tx_bytes ro_pupils ro_mood ro_letters ro_rows ro_columns ro_tenths ro_needs ro_toldDares le_seed le_questions le_rightOnes le_wrongOnes le_isKept le_dares le_times ha_cells ch_pupils ch_rule ch_ranks ch_eligible ch_eligibleAndRight ch_cells s1_seed s1_questions s1_rightOnes s1_wrongOnes s1_isKept s1_dares s1_times s2_seed s2_questions s2_rightOnes s2_wrongOnes s2_isKept s2_dares s2_times ta_size ta_hands ta_ones ta_cells tr_waited tr_size tr_hands m_readMany m_pupils m_mood m_length m_at m_faultAt m_drawn m_questions m_rights m_wrongs m_tapes m_trials m_read m_pupil m_dares m_times m_text m_joint m_others m_tapeHands m_tapeTaken m_trialHands m_trialWaited m_isKept m_keptDares m_keptTimes m_keptDrawn m_keptLesson (xs (nI i + (1 : Int32)).toNatClampNeg) (xs (nI i + (2 : Int32)).toNatClampNeg)  hR
  refine lv_aload_n hx hb dL_law_555 rfl (lv_at hl 1 rfl) ?_
  refine lv_aload_n hx hb dL_law_556 rfl (lv_at hl 0 rfl) ?_
  refine lv_iload_n hx hb dL_law_557 rfl (lv_at hl 3 rfl) ?_
  refine lv_iconst (v := (1 : Int32)) hx hb dL_law_558 (by decide) ?_
  refine lv_iadd hx hb dL_law_559 ?_
  refine va_sld hx hb hX hbl hbA hS i1 dL_law_560 ?_
  refine lv_aload_n hx hb dL_law_561 rfl (lv_at hl 0 rfl) ?_
  refine lv_iload_n hx hb dL_law_562 rfl (lv_at hl 3 rfl) ?_
  refine lv_iconst (v := (2 : Int32)) hx hb dL_law_563 (by decide) ?_
  refine lv_iadd hx hb dL_law_564 ?_
  refine va_sld hx hb hX hbl hbA hS i2 dL_law_565 ?_
  refine wr_i (runV (As := [.int (xs (nI i + (1 : Int32)).toNatClampNeg), .int (xs (nI i + (2 : Int32)).toNatClampNeg)]) (rest := []) X cq_X8_likely lk_L_65 (c_X8_likely l D cI cJ cZ a ws0 (fun q : Nat => s.heap.size ≤ q) ro_pupils ro_mood ro_letters ro_tenths ro_needs le_seed le_questions le_rightOnes le_wrongOnes le_isKept le_dares ha_cells (xs (nI i + (1 : Int32)).toNatClampNeg) (xs (nI i + (2 : Int32)).toNatClampNeg) u hu h0 h3 h4 h7 h8 h10 h11 h13 h14 h15 hD) rfl rfl ⟨Nat.le_of_ble_eq_true rfl, Nat.le_of_ble_eq_true rfl⟩ hP h0 rfl rfl hl.1 rfl (Nat.le_of_ble_eq_true rfl) dL_law_566 ⟨Nat.le_of_ble_eq_true rfl, Nat.le_of_ble_eq_true rfl⟩) hS (fun w1 H locs hP hD hk hB hS => ?_)
  have h15 : w1[15]? = some (a 15, .inl (cJ, 169, .inr (.inl u.2))) := hB
  have h0 := (hk 0 (by decide)).trans h0
  have h1 := (hk 1 (by decide)).trans h1
  have h2 := (hk 2 (by decide)).trans h2
  have h3 := (hk 3 (by decide)).trans h3
  have h4 := (hk 4 (by decide)).trans h4
  have h5 := (hk 5 (by decide)).trans h5
  have h6 := (hk 6 (by decide)).trans h6
  have h7 := (hk 7 (by decide)).trans h7
  have h8 := (hk 8 (by decide)).trans h8
  have h9 := (hk 9 (by decide)).trans h9
  have h10 := (hk 10 (by decide)).trans h10
  have h11 := (hk 11 (by decide)).trans h11
  have h12 := (hk 12 (by decide)).trans h12
  have h13 := (hk 13 (by decide)).trans h13
  have h14 := (hk 14 (by decide)).trans h14
  have h16 := (hk 16 (by decide)).trans h16
  have h17 := (hk 17 (by decide)).trans h17
  have h18 := (hk 18 (by decide)).trans h18
  have h19 := (hk 19 (by decide)).trans h19
  have h20 := (hk 20 (by decide)).trans h20
  have h21 := (hk 21 (by decide)).trans h21
  have h22 := (hk 22 (by decide)).trans h22
  have h23 := (hk 23 (by decide)).trans h23
  have h24 := (hk 24 (by decide)).trans h24
  have h25 := (hk 25 (by decide)).trans h25
  have h26 := (hk 26 (by decide)).trans h26
  have h27 := (hk 27 (by decide)).trans h27
  have h28 := (hk 28 (by decide)).trans h28
  have h29 := (hk 29 (by decide)).trans h29
  have h30 := (hk 30 (by decide)).trans h30
  have h31 := (hk 31 (by decide)).trans h31
  have h32 := (hk 32 (by decide)).trans h32
  have h33 := (hk 33 (by decide)).trans h33
  have h34 := (hk 34 (by decide)).trans h34
  have h35 := (hk 35 (by decide)).trans h35
  have h36 := (hk 36 (by decide)).trans h36
  have h37 := (hk 37 (by decide)).trans h37
  have h38 := (hk 38 (by decide)).trans h38
  have h39 := (hk 39 (by decide)).trans h39
  have h40 := (hk 40 (by decide)).trans h40
  have h41 := (hk 41 (by decide)).trans h41
  have h42 := (hk 42 (by decide)).trans h42
  have h43 := (hk 43 (by decide)).trans h43
  have h44 := (hk 44 (by decide)).trans h44
  have h45 := (hk 45 (by decide)).trans h45
  have h46 := (hk 46 (by decide)).trans h46
  have h47 := (hk 47 (by decide)).trans h47
  have h48 := (hk 48 (by decide)).trans h48
  have h49 := (hk 49 (by decide)).trans h49
  have h50 := (hk 50 (by decide)).trans h50
  have h51 := (hk 51 (by decide)).trans h51
  refine lv_aload_n hx hb dL_law_569 rfl (lv_at hl 2 rfl) ?_
  refine lv_aload_n hx hb dL_law_570 rfl (lv_at hl 0 rfl) ?_
  refine lv_iload_n hx hb dL_law_571 rfl (lv_at hl 3 rfl) ?_
  refine lv_iconst (v := (1 : Int32)) hx hb dL_law_572 (by decide) ?_
  refine lv_iadd hx hb dL_law_573 ?_
  refine va_sld hx hb hX hbl hbA hS i1 dL_law_574 ?_
  refine lv_aload_n hx hb dL_law_575 rfl (lv_at hl 0 rfl) ?_
  refine lv_iload_n hx hb dL_law_576 rfl (lv_at hl 3 rfl) ?_
  refine lv_iconst (v := (2 : Int32)) hx hb dL_law_577 (by decide) ?_
  refine lv_iadd hx hb dL_law_578 ?_
  refine va_sld hx hb hX hbl hbA hS i2 dL_law_579 ?_
  refine wr_i (runV (As := [.int (xs (nI i + (1 : Int32)).toNatClampNeg), .int (xs (nI i + (2 : Int32)).toNatClampNeg)]) (rest := [.int u.1]) X cq_X9_likely lk_L_68 (c_X9_likely l D cI cJ cZ a w1 (fun q : Nat => s.heap.size ≤ q) m_readMany m_pupils m_mood m_length m_at m_faultAt m_drawn m_questions m_rights m_wrongs m_tapes m_trials m_pupil m_dares m_joint (xs (nI i + (1 : Int32)).toNatClampNeg) (xs (nI i + (2 : Int32)).toNatClampNeg) v hv h35 h37 h38 h41 hD) rfl rfl ⟨Nat.le_of_ble_eq_true rfl, Nat.le_of_ble_eq_true rfl⟩ hP h35 rfl rfl hl.1 rfl (Nat.le_of_ble_eq_true rfl) dL_law_580 ⟨Nat.le_of_ble_eq_true rfl, Nat.le_of_ble_eq_true rfl⟩) hS (fun w2 H locs hP hD hk hB hS => ?_)
  have h41 : w2[41]? = some (a 41, .inl (cJ, 169, .inr (.inl v.2))) := hB
  have h0 := (hk 0 (by decide)).trans h0
  have h1 := (hk 1 (by decide)).trans h1
  have h2 := (hk 2 (by decide)).trans h2
  have h3 := (hk 3 (by decide)).trans h3
  have h4 := (hk 4 (by decide)).trans h4
  have h5 := (hk 5 (by decide)).trans h5
  have h6 := (hk 6 (by decide)).trans h6
  have h7 := (hk 7 (by decide)).trans h7
  have h8 := (hk 8 (by decide)).trans h8
  have h9 := (hk 9 (by decide)).trans h9
  have h10 := (hk 10 (by decide)).trans h10
  have h11 := (hk 11 (by decide)).trans h11
  have h12 := (hk 12 (by decide)).trans h12
  have h13 := (hk 13 (by decide)).trans h13
  have h14 := (hk 14 (by decide)).trans h14
  have h15 := (hk 15 (by decide)).trans h15
  have h16 := (hk 16 (by decide)).trans h16
  have h17 := (hk 17 (by decide)).trans h17
  have h18 := (hk 18 (by decide)).trans h18
  have h19 := (hk 19 (by decide)).trans h19
  have h20 := (hk 20 (by decide)).trans h20
  have h21 := (hk 21 (by decide)).trans h21
  have h22 := (hk 22 (by decide)).trans h22
  have h23 := (hk 23 (by decide)).trans h23
  have h24 := (hk 24 (by decide)).trans h24
  have h25 := (hk 25 (by decide)).trans h25
  have h26 := (hk 26 (by decide)).trans h26
  have h27 := (hk 27 (by decide)).trans h27
  have h28 := (hk 28 (by decide)).trans h28
  have h29 := (hk 29 (by decide)).trans h29
  have h30 := (hk 30 (by decide)).trans h30
  have h31 := (hk 31 (by decide)).trans h31
  have h32 := (hk 32 (by decide)).trans h32
  have h33 := (hk 33 (by decide)).trans h33
  have h34 := (hk 34 (by decide)).trans h34
  have h35 := (hk 35 (by decide)).trans h35
  have h36 := (hk 36 (by decide)).trans h36
  have h37 := (hk 37 (by decide)).trans h37
  have h38 := (hk 38 (by decide)).trans h38
  have h39 := (hk 39 (by decide)).trans h39
  have h40 := (hk 40 (by decide)).trans h40
  have h42 := (hk 42 (by decide)).trans h42
  have h43 := (hk 43 (by decide)).trans h43
  have h44 := (hk 44 (by decide)).trans h44
  have h45 := (hk 45 (by decide)).trans h45
  have h46 := (hk 46 (by decide)).trans h46
  have h47 := (hk 47 (by decide)).trans h47
  have h48 := (hk 48 (by decide)).trans h48
  have h49 := (hk 49 (by decide)).trans h49
  have h50 := (hk 50 (by decide)).trans h50
  have h51 := (hk 51 (by decide)).trans h51
  refine lv_icmp_eq (tgt := 1535) hx hb dL_law_583 (by decide) (fun _ => ?_) (fun q => absurd he q)
  exact KK tx_length tx_bytes ro_pupils ro_mood ro_letters ro_rows ro_columns ro_tenths ro_needs ro_toldDares le_seed le_questions le_rightOnes le_wrongOnes le_isKept le_dares le_times u.2 ch_pupils ch_rule ch_ranks ch_eligible ch_eligibleAndRight ch_cells s1_seed s1_questions s1_rightOnes s1_wrongOnes s1_isKept s1_dares s1_times s2_seed s2_questions s2_rightOnes s2_wrongOnes s2_isKept s2_dares s2_times ta_size ta_hands ta_ones ta_cells tr_waited tr_size tr_hands m_readMany m_pupils m_mood m_length m_at m_faultAt m_drawn m_questions m_rights m_wrongs m_tapes m_trials m_read m_pupil m_dares m_times m_text v.2 m_others m_tapeHands m_tapeTaken m_trialHands m_trialWaited m_isKept m_keptDares m_keptTimes m_keptDrawn m_keptLesson hR2 _ _ _ hP hD hS ⟨h0, h1, h2, h3, h4, h5, h6, h7, h8, h9, h10, h11, h12, h13, h14, h15, h16, h17, h18, h19, h20, h21, h22, h23, h24, h25, h26, h27, h28, h29, h30, h31, h32, h33, h34, h35, h36, h37, h38, h39, h40, h41, h42, h43, h44, h45, h46, h47, h48, h49, h50, h51⟩ ls hl
set_option maxHeartbeats 4000000 in
set_option maxRecDepth 100000 in
theorem case_12 {p : Program} {l : Launch} {e : Env} {s : State} {m : MethodId} {below : List Frame} {meth : Method} {c : Code} {D : va_G} {cI cJ cZ : ClassId} {a : Nat → Nat} {b L : Nat} {xs : Nat → Int32} (C0 : lw_At p s m meth c b L xs) (X : Cx yL_law code 4 ret D cI cJ cZ p s m #[Value.ref b] meth c) (i : Nat) (hi : i + 5 < L) (hL : L ≤ 3072) (tx_length : Int32) (tx_bytes : Nat → Int32) (ro_pupils : Int32) (ro_mood : Int32) (ro_letters : Nat → Int32) (ro_rows : Nat → Int32) (ro_columns : Nat → Int32) (ro_tenths : Nat → Int32) (ro_needs : Nat → Int32) (ro_toldDares : Nat → Int32) (le_seed : Int64) (le_questions : Int32) (le_rightOnes : Int32) (le_wrongOnes : Int32) (le_isKept : Int32) (le_dares : Nat → Int32) (le_times : Nat → Int32) (ha_cells : Nat → Int64) (ch_pupils : Int32) (ch_rule : Int32) (ch_ranks : Nat → Int32) (ch_eligible : Nat → Int32) (ch_eligibleAndRight : Nat → Int32) (ch_cells : Nat → Int64) (s1_seed : Int64) (s1_questions : Int32) (s1_rightOnes : Int32) (s1_wrongOnes : Int32) (s1_isKept : Int32) (s1_dares : Nat → Int32) (s1_times : Nat → Int32) (s2_seed : Int64) (s2_questions : Int32) (s2_rightOnes : Int32) (s2_wrongOnes : Int32) (s2_isKept : Int32) (s2_dares : Nat → Int32) (s2_times : Nat → Int32) (ta_size : Int32) (ta_hands : Nat → Int32) (ta_ones : Nat → Int32) (ta_cells : Nat → Int64) (tr_waited : Int32) (tr_size : Int32) (tr_hands : Nat → Int32) (m_readMany : Int32) (m_pupils : Int32) (m_mood : Int32) (m_length : Int32) (m_at : Int32) (m_faultAt : Int32) (m_drawn : Int64) (m_questions : Int32) (m_rights : Int32) (m_wrongs : Int32) (m_tapes : Int32) (m_trials : Int32) (m_read : Nat → Int32) (m_pupil : Nat → Int32) (m_dares : Nat → Int32) (m_times : Nat → Int32) (m_text : Nat → Int32) (m_joint : Nat → Int64) (m_others : Nat → Int64) (m_tapeHands : Nat → Int32) (m_tapeTaken : Nat → Int32) (m_trialHands : Nat → Int32) (m_trialWaited : Nat → Int32) (m_isKept : Nat → Int32) (m_keptDares : Nat → Int32) (m_keptTimes : Nat → Int32) (m_keptDrawn : Nat → Int64) (m_keptLesson : Nat → Int32) (hR : Rel i tx_length tx_bytes ro_pupils ro_mood ro_letters ro_rows ro_columns ro_tenths ro_needs ro_toldDares le_seed le_questions le_rightOnes le_wrongOnes le_dares le_times s1_seed s1_questions s1_rightOnes s1_wrongOnes s1_isKept s1_dares s1_times s2_seed s2_questions s2_rightOnes s2_wrongOnes s2_isKept s2_dares s2_times ta_size ta_hands ta_ones tr_waited tr_size tr_hands m_pupils m_mood m_length m_drawn m_questions m_rights m_wrongs m_tapes m_trials m_pupil m_dares m_times m_text m_tapeHands m_tapeTaken m_trialHands m_trialWaited m_isKept m_keptDares m_keptTimes m_keptDrawn m_keptLesson) (ws0 : va_W) (H : Heap) (locs : List Loc) (hP : va_P D vwCl ws0 H) (hD : va_D (fun q : Nat => s.heap.size ≤ q) ws0) (hS : va_S (fun q : Nat => s.heap.size ≤ q) s.heap H locs) (hw : wAll a cI cJ cZ ws0 tx_length tx_bytes ro_pupils ro_mood ro_letters ro_rows ro_columns ro_tenths ro_needs ro_toldDares le_seed le_questions le_rightOnes le_wrongOnes le_isKept le_dares le_times ha_cells ch_pupils ch_rule ch_ranks ch_eligible ch_eligibleAndRight ch_cells s1_seed s1_questions s1_rightOnes s1_wrongOnes s1_isKept s1_dares s1_times s2_seed s2_questions s2_rightOnes s2_wrongOnes s2_isKept s2_dares s2_times ta_size ta_hands ta_ones ta_cells tr_waited tr_size tr_hands m_readMany m_pupils m_mood m_length m_at m_faultAt m_drawn m_questions m_rights m_wrongs m_tapes m_trials m_read m_pupil m_dares m_times m_text m_joint m_others m_tapeHands m_tapeTaken m_trialHands m_trialWaited m_isKept m_keptDares m_keptTimes m_keptDrawn m_keptLesson) (ls : Array Slot) (hl : lv_has ls 4 [(0, .ref b), (1, .ref (a 0)), (2, .ref (a 35)), (3, .int (nI i))]) (KK : ∀ (tx_length : Int32) (tx_bytes : Nat → Int32) (ro_pupils : Int32) (ro_mood : Int32) (ro_letters : Nat → Int32) (ro_rows : Nat → Int32) (ro_columns : Nat → Int32) (ro_tenths : Nat → Int32) (ro_needs : Nat → Int32) (ro_toldDares : Nat → Int32) (le_seed : Int64) (le_questions : Int32) (le_rightOnes : Int32) (le_wrongOnes : Int32) (le_isKept : Int32) (le_dares : Nat → Int32) (le_times : Nat → Int32) (ha_cells : Nat → Int64) (ch_pupils : Int32) (ch_rule : Int32) (ch_ranks : Nat → Int32) (ch_eligible : Nat → Int32) (ch_eligibleAndRight : Nat → Int32) (ch_cells : Nat → Int64) (s1_seed : Int64) (s1_questions : Int32) (s1_rightOnes : Int32) (s1_wrongOnes : Int32) (s1_isKept : Int32) (s1_dares : Nat → Int32) (s1_times : Nat → Int32) (s2_seed : Int64) (s2_questions : Int32) (s2_rightOnes : Int32) (s2_wrongOnes : Int32) (s2_isKept : Int32) (s2_dares : Nat → Int32) (s2_times : Nat → Int32) (ta_size : Int32) (ta_hands : Nat → Int32) (ta_ones : Nat → Int32) (ta_cells : Nat → Int64) (tr_waited : Int32) (tr_size : Int32) (tr_hands : Nat → Int32) (m_readMany : Int32) (m_pupils : Int32) (m_mood : Int32) (m_length : Int32) (m_at : Int32) (m_faultAt : Int32) (m_drawn : Int64) (m_questions : Int32) (m_rights : Int32) (m_wrongs : Int32) (m_tapes : Int32) (m_trials : Int32) (m_read : Nat → Int32) (m_pupil : Nat → Int32) (m_dares : Nat → Int32) (m_times : Nat → Int32) (m_text : Nat → Int32) (m_joint : Nat → Int64) (m_others : Nat → Int64) (m_tapeHands : Nat → Int32) (m_tapeTaken : Nat → Int32) (m_trialHands : Nat → Int32) (m_trialWaited : Nat → Int32) (m_isKept : Nat → Int32) (m_keptDares : Nat → Int32) (m_keptTimes : Nat → Int32) (m_keptDrawn : Nat → Int64) (m_keptLesson : Nat → Int32), Rel (i + 1) tx_length tx_bytes ro_pupils ro_mood ro_letters ro_rows ro_columns ro_tenths ro_needs ro_toldDares le_seed le_questions le_rightOnes le_wrongOnes le_dares le_times s1_seed s1_questions s1_rightOnes s1_wrongOnes s1_isKept s1_dares s1_times s2_seed s2_questions s2_rightOnes s2_wrongOnes s2_isKept s2_dares s2_times ta_size ta_hands ta_ones tr_waited tr_size tr_hands m_pupils m_mood m_length m_drawn m_questions m_rights m_wrongs m_tapes m_trials m_pupil m_dares m_times m_text m_tapeHands m_tapeTaken m_trialHands m_trialWaited m_isKept m_keptDares m_keptTimes m_keptDrawn m_keptLesson → ∀ (w : va_W) (H : Heap) (locs : List Loc), va_P D vwCl w H → va_D (fun q : Nat => s.heap.size ≤ q) w → va_S (fun q : Nat => s.heap.size ≤ q) s.heap H locs → wAll a cI cJ cZ w tx_length tx_bytes ro_pupils ro_mood ro_letters ro_rows ro_columns ro_tenths ro_needs ro_toldDares le_seed le_questions le_rightOnes le_wrongOnes le_isKept le_dares le_times ha_cells ch_pupils ch_rule ch_ranks ch_eligible ch_eligibleAndRight ch_cells s1_seed s1_questions s1_rightOnes s1_wrongOnes s1_isKept s1_dares s1_times s2_seed s2_questions s2_rightOnes s2_wrongOnes s2_isKept s2_dares s2_times ta_size ta_hands ta_ones ta_cells tr_waited tr_size tr_hands m_readMany m_pupils m_mood m_length m_at m_faultAt m_drawn m_questions m_rights m_wrongs m_tapes m_trials m_read m_pupil m_dares m_times m_text m_joint m_others m_tapeHands m_tapeTaken m_trialHands m_trialWaited m_isKept m_keptDares m_keptTimes m_keptDrawn m_keptLesson → ∀ ls : Array Slot, lv_has ls 4 [(0, .ref b), (1, .ref (a 0)), (2, .ref (a 35)), (3, .int (nI i))] → W p l e room_1 s m #[Value.ref b] below meth c H locs 52 1402 (lw_Z below #[Value.ref b] s) (F0 m 1535 ls [])) : W p l e room_1 s m #[Value.ref b] below meth c H locs 52 1402 (lw_Z below #[Value.ref b] s) (F0 m 588 ls []) := by
  obtain ⟨-, -, -, -, -, -, hX, hbl, -, -⟩ := C0
  obtain ⟨hx, hb, hr, hml, hown, hts, hlk, hK, hN⟩ := id X
  have hown : s.vm.findClass RL = some m.cls := hown
  have hbA : ¬ (fun q : Nat => s.heap.size ≤ q) b := Nat.not_le.mpr hbl
  obtain ⟨h0, h1, h2, h3, h4, h5, h6, h7, h8, h9, h10, h11, h12, h13, h14, h15, h16, h17, h18, h19, h20, h21, h22, h23, h24, h25, h26, h27, h28, h29, h30, h31, h32, h33, h34, h35, h36, h37, h38, h39, h40, h41, h42, h43, h44, h45, h46, h47, h48, h49, h50, h51⟩ := hw
  have i1 : vp_in (nI i + (1 : Int32)) L := by rw [show (1 : Int32) = nI 1 from rfl, nI_add]; exact vp_in_nI (by omega) (by omega)
  have i2 : vp_in (nI i + (2 : Int32)) L := by rw [show (2 : Int32) = nI 2 from rfl, nI_add]; exact vp_in_nI (by omega) (by omega)
  have i3 : vp_in (nI i + (3 : Int32)) L := by rw [show (3 : Int32) = nI 3 from rfl, nI_add]; exact vp_in_nI (by omega) (by omega)
  have i4 : vp_in (nI i + (4 : Int32)) L := by rw [show (4 : Int32) = nI 4 from rfl, nI_add]; exact vp_in_nI (by omega) (by omega)
  have i5 : vp_in (nI i + (5 : Int32)) L := by rw [show (5 : Int32) = nI 5 from rfl, nI_add]; exact vp_in_nI (by omega) (by omega)
  by_cases hz : xs (nI i + (4 : Int32)).toNatClampNeg = 0
  · obtain ⟨u, v, hu, hv, he, hR2⟩ := P_taken i (by omega) tx_length tx_bytes ro_pupils ro_mood ro_letters ro_rows ro_columns ro_tenths ro_needs ro_toldDares le_seed le_questions le_rightOnes le_wrongOnes le_isKept le_dares le_times ha_cells ch_pupils ch_rule ch_ranks ch_eligible ch_eligibleAndRight ch_cells s1_seed s1_questions s1_rightOnes s1_wrongOnes s1_isKept s1_dares s1_times s2_seed s2_questions s2_rightOnes s2_wrongOnes s2_isKept s2_dares s2_times ta_size ta_hands ta_ones ta_cells tr_waited tr_size tr_hands m_readMany m_pupils m_mood m_length m_at m_faultAt m_drawn m_questions m_rights m_wrongs m_tapes m_trials m_read m_pupil m_dares m_times m_text m_joint m_others m_tapeHands m_tapeTaken m_trialHands m_trialWaited m_isKept m_keptDares m_keptTimes m_keptDrawn m_keptLesson (xs (nI i + (1 : Int32)).toNatClampNeg) (xs (nI i + (2 : Int32)).toNatClampNeg) (xs (nI i + (3 : Int32)).toNatClampNeg) (0 : Int32) (by decide) hR
    refine lv_aload_n hx hb dL_law_588 rfl (lv_at hl 1 rfl) ?_
    refine lv_aload_n hx hb dL_law_589 rfl (lv_at hl 0 rfl) ?_
    refine lv_iload_n hx hb dL_law_590 rfl (lv_at hl 3 rfl) ?_
    refine lv_iconst (v := (1 : Int32)) hx hb dL_law_591 (by decide) ?_
    refine lv_iadd hx hb dL_law_592 ?_
    refine va_sld hx hb hX hbl hbA hS i1 dL_law_593 ?_
    refine lv_aload_n hx hb dL_law_594 rfl (lv_at hl 0 rfl) ?_
    refine lv_iload_n hx hb dL_law_595 rfl (lv_at hl 3 rfl) ?_
    refine lv_iconst (v := (2 : Int32)) hx hb dL_law_596 (by decide) ?_
    refine lv_iadd hx hb dL_law_597 ?_
    refine va_sld hx hb hX hbl hbA hS i2 dL_law_598 ?_
    refine lv_aload_n hx hb dL_law_599 rfl (lv_at hl 0 rfl) ?_
    refine lv_iload_n hx hb dL_law_600 rfl (lv_at hl 3 rfl) ?_
    refine lv_iconst (v := (3 : Int32)) hx hb dL_law_601 (by decide) ?_
    refine lv_iadd hx hb dL_law_602 ?_
    refine va_sld hx hb hX hbl hbA hS i3 dL_law_603 ?_
    refine lv_aload_n hx hb dL_law_604 rfl (lv_at hl 0 rfl) ?_
    refine lv_iload_n hx hb dL_law_605 rfl (lv_at hl 3 rfl) ?_
    refine lv_iconst (v := (4 : Int32)) hx hb dL_law_606 (by decide) ?_
    refine lv_iadd hx hb dL_law_607 ?_
    refine va_sld hx hb hX hbl hbA hS i4 dL_law_608 ?_
    refine lv_if_eq (tgt := 616) hx hb dL_law_609 (by decide) (fun _ => ?_) (fun q => absurd hz q)
    refine lv_iconst (v := (0 : Int32)) hx hb dL_law_616 (by decide) ?_
    refine wr_l (runV (As := [.int (xs (nI i + (1 : Int32)).toNatClampNeg), .int (xs (nI i + (2 : Int32)).toNatClampNeg), .int (xs (nI i + (3 : Int32)).toNatClampNeg), .int (0 : Int32)]) (rest := []) X cq_X8_taken lk_L_69 (c_X8_taken l D cI cJ cZ a ws0 (fun q : Nat => s.heap.size ≤ q) ro_pupils ro_mood ro_letters ro_rows ro_columns ro_tenths ro_needs le_seed le_questions le_rightOnes le_wrongOnes le_isKept le_dares le_times ch_pupils ch_rule ch_ranks ch_eligible ch_eligibleAndRight ch_cells (xs (nI i + (1 : Int32)).toNatClampNeg) (xs (nI i + (2 : Int32)).toNatClampNeg) (xs (nI i + (3 : Int32)).toNatClampNeg) (0 : Int32) u hu h0 h3 h4 h5 h6 h7 h8 h10 h11 h12 h16 h17 h18 h19 h20 h21 hD) rfl rfl ⟨Nat.le_of_ble_eq_true rfl, Nat.le_of_ble_eq_true rfl⟩ hP h0 rfl rfl hl.1 rfl (Nat.le_of_ble_eq_true rfl) dL_law_617 ⟨Nat.le_of_ble_eq_true rfl, Nat.le_of_ble_eq_true rfl⟩) hS (fun w1 H locs hP hD hk hB hS => ?_)
    obtain ⟨hB0, hB1, hB2, hB3, hB4⟩ := hB
    have h16 : w1[16]? = some (a 16, .inr (0, [.ref (a 17), .ref (a 18), .ref (a 19), .ref (a 20), .int u.2.1, .int u.2.2.1])) := hB0
    have h17 : w1[17]? = some (a 17, .inl (cI, 12, .inl u.2.2.2.1)) := hB1
    have h18 : w1[18]? = some (a 18, .inl (cI, 12, .inl u.2.2.2.2.1)) := hB2
    have h19 : w1[19]? = some (a 19, .inl (cI, 12, .inl u.2.2.2.2.2.1)) := hB3
    have h21 : w1[21]? = some (a 21, .inl (cJ, 169, .inr (.inl u.2.2.2.2.2.2))) := hB4
    have h0 := (hk 0 (by decide)).trans h0
    have h1 := (hk 1 (by decide)).trans h1
    have h2 := (hk 2 (by decide)).trans h2
    have h3 := (hk 3 (by decide)).trans h3
    have h4 := (hk 4 (by decide)).trans h4
    have h5 := (hk 5 (by decide)).trans h5
    have h6 := (hk 6 (by decide)).trans h6
    have h7 := (hk 7 (by decide)).trans h7
    have h8 := (hk 8 (by decide)).trans h8
    have h9 := (hk 9 (by decide)).trans h9
    have h10 := (hk 10 (by decide)).trans h10
    have h11 := (hk 11 (by decide)).trans h11
    have h12 := (hk 12 (by decide)).trans h12
    have h13 := (hk 13 (by decide)).trans h13
    have h14 := (hk 14 (by decide)).trans h14
    have h15 := (hk 15 (by decide)).trans h15
    have h20 := (hk 20 (by decide)).trans h20
    have h22 := (hk 22 (by decide)).trans h22
    have h23 := (hk 23 (by decide)).trans h23
    have h24 := (hk 24 (by decide)).trans h24
    have h25 := (hk 25 (by decide)).trans h25
    have h26 := (hk 26 (by decide)).trans h26
    have h27 := (hk 27 (by decide)).trans h27
    have h28 := (hk 28 (by decide)).trans h28
    have h29 := (hk 29 (by decide)).trans h29
    have h30 := (hk 30 (by decide)).trans h30
    have h31 := (hk 31 (by decide)).trans h31
    have h32 := (hk 32 (by decide)).trans h32
    have h33 := (hk 33 (by decide)).trans h33
    have h34 := (hk 34 (by decide)).trans h34
    have h35 := (hk 35 (by decide)).trans h35
    have h36 := (hk 36 (by decide)).trans h36
    have h37 := (hk 37 (by decide)).trans h37
    have h38 := (hk 38 (by decide)).trans h38
    have h39 := (hk 39 (by decide)).trans h39
    have h40 := (hk 40 (by decide)).trans h40
    have h41 := (hk 41 (by decide)).trans h41
    have h42 := (hk 42 (by decide)).trans h42
    have h43 := (hk 43 (by decide)).trans h43
    have h44 := (hk 44 (by decide)).trans h44
    have h45 := (hk 45 (by decide)).trans h45
    have h46 := (hk 46 (by decide)).trans h46
    have h47 := (hk 47 (by decide)).trans h47
    have h48 := (hk 48 (by decide)).trans h48
    have h49 := (hk 49 (by decide)).trans h49
    have h50 := (hk 50 (by decide)).trans h50
    have h51 := (hk 51 (by decide)).trans h51
    refine lv_aload_n hx hb dL_law_620 rfl (lv_at hl 2 rfl) ?_
    refine lv_aload_n hx hb dL_law_621 rfl (lv_at hl 0 rfl) ?_
    refine lv_iload_n hx hb dL_law_622 rfl (lv_at hl 3 rfl) ?_
    refine lv_iconst (v := (1 : Int32)) hx hb dL_law_623 (by decide) ?_
    refine lv_iadd hx hb dL_law_624 ?_
    refine va_sld hx hb hX hbl hbA hS i1 dL_law_625 ?_
    refine lv_aload_n hx hb dL_law_626 rfl (lv_at hl 0 rfl) ?_
    refine lv_iload_n hx hb dL_law_627 rfl (lv_at hl 3 rfl) ?_
    refine lv_iconst (v := (2 : Int32)) hx hb dL_law_628 (by decide) ?_
    refine lv_iadd hx hb dL_law_629 ?_
    refine va_sld hx hb hX hbl hbA hS i2 dL_law_630 ?_
    refine lv_aload_n hx hb dL_law_631 rfl (lv_at hl 0 rfl) ?_
    refine lv_iload_n hx hb dL_law_632 rfl (lv_at hl 3 rfl) ?_
    refine lv_iconst (v := (3 : Int32)) hx hb dL_law_633 (by decide) ?_
    refine lv_iadd hx hb dL_law_634 ?_
    refine va_sld hx hb hX hbl hbA hS i3 dL_law_635 ?_
    refine lv_aload_n hx hb dL_law_636 rfl (lv_at hl 0 rfl) ?_
    refine lv_iload_n hx hb dL_law_637 rfl (lv_at hl 3 rfl) ?_
    refine lv_iconst (v := (4 : Int32)) hx hb dL_law_638 (by decide) ?_
    refine lv_iadd hx hb dL_law_639 ?_
    refine va_sld hx hb hX hbl hbA hS i4 dL_law_640 ?_
    refine lv_if_eq (tgt := 648) hx hb dL_law_641 (by decide) (fun _ => ?_) (fun q => absurd hz q)
    refine lv_iconst (v := (0 : Int32)) hx hb dL_law_648 (by decide) ?_
    refine wr_l (runV (As := [.int (xs (nI i + (1 : Int32)).toNatClampNeg), .int (xs (nI i + (2 : Int32)).toNatClampNeg), .int (xs (nI i + (3 : Int32)).toNatClampNeg), .int (0 : Int32)]) (rest := [.long u.1]) X cq_X9_taken lk_L_72 (c_X9_taken l D cI cJ cZ a w1 (fun q : Nat => s.heap.size ≤ q) m_readMany m_pupils m_mood m_length m_at m_faultAt m_drawn m_questions m_rights m_wrongs m_tapes m_trials m_pupil m_dares m_times m_others (xs (nI i + (1 : Int32)).toNatClampNeg) (xs (nI i + (2 : Int32)).toNatClampNeg) (xs (nI i + (3 : Int32)).toNatClampNeg) (0 : Int32) v hv h35 h37 h38 h39 h42 hD) rfl rfl ⟨Nat.le_of_ble_eq_true rfl, Nat.le_of_ble_eq_true rfl⟩ hP h35 rfl rfl hl.1 rfl (Nat.le_of_ble_eq_true rfl) dL_law_649 ⟨Nat.le_of_ble_eq_true rfl, Nat.le_of_ble_eq_true rfl⟩) hS (fun w2 H locs hP hD hk hB hS => ?_)
    have h42 : w2[42]? = some (a 42, .inl (cJ, 13, .inr (.inl v.2))) := hB
    have h0 := (hk 0 (by decide)).trans h0
    have h1 := (hk 1 (by decide)).trans h1
    have h2 := (hk 2 (by decide)).trans h2
    have h3 := (hk 3 (by decide)).trans h3
    have h4 := (hk 4 (by decide)).trans h4
    have h5 := (hk 5 (by decide)).trans h5
    have h6 := (hk 6 (by decide)).trans h6
    have h7 := (hk 7 (by decide)).trans h7
    have h8 := (hk 8 (by decide)).trans h8
    have h9 := (hk 9 (by decide)).trans h9
    have h10 := (hk 10 (by decide)).trans h10
    have h11 := (hk 11 (by decide)).trans h11
    have h12 := (hk 12 (by decide)).trans h12
    have h13 := (hk 13 (by decide)).trans h13
    have h14 := (hk 14 (by decide)).trans h14
    have h15 := (hk 15 (by decide)).trans h15
    have h16 := (hk 16 (by decide)).trans h16
    have h17 := (hk 17 (by decide)).trans h17
    have h18 := (hk 18 (by decide)).trans h18
    have h19 := (hk 19 (by decide)).trans h19
    have h20 := (hk 20 (by decide)).trans h20
    have h21 := (hk 21 (by decide)).trans h21
    have h22 := (hk 22 (by decide)).trans h22
    have h23 := (hk 23 (by decide)).trans h23
    have h24 := (hk 24 (by decide)).trans h24
    have h25 := (hk 25 (by decide)).trans h25
    have h26 := (hk 26 (by decide)).trans h26
    have h27 := (hk 27 (by decide)).trans h27
    have h28 := (hk 28 (by decide)).trans h28
    have h29 := (hk 29 (by decide)).trans h29
    have h30 := (hk 30 (by decide)).trans h30
    have h31 := (hk 31 (by decide)).trans h31
    have h32 := (hk 32 (by decide)).trans h32
    have h33 := (hk 33 (by decide)).trans h33
    have h34 := (hk 34 (by decide)).trans h34
    have h35 := (hk 35 (by decide)).trans h35
    have h36 := (hk 36 (by decide)).trans h36
    have h37 := (hk 37 (by decide)).trans h37
    have h38 := (hk 38 (by decide)).trans h38
    have h39 := (hk 39 (by decide)).trans h39
    have h40 := (hk 40 (by decide)).trans h40
    have h41 := (hk 41 (by decide)).trans h41
    have h43 := (hk 43 (by decide)).trans h43
    have h44 := (hk 44 (by decide)).trans h44
    have h45 := (hk 45 (by decide)).trans h45
    have h46 := (hk 46 (by decide)).trans h46
    have h47 := (hk 47 (by decide)).trans h47
    have h48 := (hk 48 (by decide)).trans h48
    have h49 := (hk 49 (by decide)).trans h49
    have h50 := (hk 50 (by decide)).trans h50
    have h51 := (hk 51 (by decide)).trans h51
    refine W.lcmp hx hb dL_law_652 ?_
    refine lv_if_eq (tgt := 1535) hx hb dL_law_653 (by decide) (fun _ => ?_) (fun q => absurd ((lc_eq _ _).mpr he) q)
    exact KK tx_length tx_bytes ro_pupils ro_mood ro_letters ro_rows ro_columns ro_tenths ro_needs ro_toldDares le_seed le_questions le_rightOnes le_wrongOnes le_isKept le_dares le_times ha_cells u.2.1 u.2.2.1 u.2.2.2.1 u.2.2.2.2.1 u.2.2.2.2.2.1 u.2.2.2.2.2.2 s1_seed s1_questions s1_rightOnes s1_wrongOnes s1_isKept s1_dares s1_times s2_seed s2_questions s2_rightOnes s2_wrongOnes s2_isKept s2_dares s2_times ta_size ta_hands ta_ones ta_cells tr_waited tr_size tr_hands m_readMany m_pupils m_mood m_length m_at m_faultAt m_drawn m_questions m_rights m_wrongs m_tapes m_trials m_read m_pupil m_dares m_times m_text m_joint v.2 m_tapeHands m_tapeTaken m_trialHands m_trialWaited m_isKept m_keptDares m_keptTimes m_keptDrawn m_keptLesson hR2 _ _ _ hP hD hS ⟨h0, h1, h2, h3, h4, h5, h6, h7, h8, h9, h10, h11, h12, h13, h14, h15, h16, h17, h18, h19, h20, h21, h22, h23, h24, h25, h26, h27, h28, h29, h30, h31, h32, h33, h34, h35, h36, h37, h38, h39, h40, h41, h42, h43, h44, h45, h46, h47, h48, h49, h50, h51⟩ ls hl
  · obtain ⟨u, v, hu, hv, he, hR2⟩ := P_taken i (by omega) tx_length tx_bytes ro_pupils ro_mood ro_letters ro_rows ro_columns ro_tenths ro_needs ro_toldDares le_seed le_questions le_rightOnes le_wrongOnes le_isKept le_dares le_times ha_cells ch_pupils ch_rule ch_ranks ch_eligible ch_eligibleAndRight ch_cells s1_seed s1_questions s1_rightOnes s1_wrongOnes s1_isKept s1_dares s1_times s2_seed s2_questions s2_rightOnes s2_wrongOnes s2_isKept s2_dares s2_times ta_size ta_hands ta_ones ta_cells tr_waited tr_size tr_hands m_readMany m_pupils m_mood m_length m_at m_faultAt m_drawn m_questions m_rights m_wrongs m_tapes m_trials m_read m_pupil m_dares m_times m_text m_joint m_others m_tapeHands m_tapeTaken m_trialHands m_trialWaited m_isKept m_keptDares m_keptTimes m_keptDrawn m_keptLesson (xs (nI i + (1 : Int32)).toNatClampNeg) (xs (nI i + (2 : Int32)).toNatClampNeg) (xs (nI i + (3 : Int32)).toNatClampNeg) (1 : Int32) (by decide) hR
    refine lv_aload_n hx hb dL_law_588 rfl (lv_at hl 1 rfl) ?_
    refine lv_aload_n hx hb dL_law_589 rfl (lv_at hl 0 rfl) ?_
    refine lv_iload_n hx hb dL_law_590 rfl (lv_at hl 3 rfl) ?_
    refine lv_iconst (v := (1 : Int32)) hx hb dL_law_591 (by decide) ?_
    refine lv_iadd hx hb dL_law_592 ?_
    refine va_sld hx hb hX hbl hbA hS i1 dL_law_593 ?_
    refine lv_aload_n hx hb dL_law_594 rfl (lv_at hl 0 rfl) ?_
    refine lv_iload_n hx hb dL_law_595 rfl (lv_at hl 3 rfl) ?_
    refine lv_iconst (v := (2 : Int32)) hx hb dL_law_596 (by decide) ?_
    refine lv_iadd hx hb dL_law_597 ?_
    refine va_sld hx hb hX hbl hbA hS i2 dL_law_598 ?_
    refine lv_aload_n hx hb dL_law_599 rfl (lv_at hl 0 rfl) ?_
    refine lv_iload_n hx hb dL_law_600 rfl (lv_at hl 3 rfl) ?_
    refine lv_iconst (v := (3 : Int32)) hx hb dL_law_601 (by decide) ?_
    refine lv_iadd hx hb dL_law_602 ?_
    refine va_sld hx hb hX hbl hbA hS i3 dL_law_603 ?_
    refine lv_aload_n hx hb dL_law_604 rfl (lv_at hl 0 rfl) ?_
    refine lv_iload_n hx hb dL_law_605 rfl (lv_at hl 3 rfl) ?_
    refine lv_iconst (v := (4 : Int32)) hx hb dL_law_606 (by decide) ?_
    refine lv_iadd hx hb dL_law_607 ?_
    refine va_sld hx hb hX hbl hbA hS i4 dL_law_608 ?_
    refine lv_if_eq (tgt := 616) hx hb dL_law_609 (by decide) (fun q => absurd q hz) (fun _ => ?_)
    refine lv_iconst (v := (1 : Int32)) hx hb dL_law_612 (by decide) ?_
    refine lv_goto (tgt := 617) hx hb dL_law_613 (by decide) ?_
    refine wr_l (runV (As := [.int (xs (nI i + (1 : Int32)).toNatClampNeg), .int (xs (nI i + (2 : Int32)).toNatClampNeg), .int (xs (nI i + (3 : Int32)).toNatClampNeg), .int (1 : Int32)]) (rest := []) X cq_X8_taken lk_L_69 (c_X8_taken l D cI cJ cZ a ws0 (fun q : Nat => s.heap.size ≤ q) ro_pupils ro_mood ro_letters ro_rows ro_columns ro_tenths ro_needs le_seed le_questions le_rightOnes le_wrongOnes le_isKept le_dares le_times ch_pupils ch_rule ch_ranks ch_eligible ch_eligibleAndRight ch_cells (xs (nI i + (1 : Int32)).toNatClampNeg) (xs (nI i + (2 : Int32)).toNatClampNeg) (xs (nI i + (3 : Int32)).toNatClampNeg) (1 : Int32) u hu h0 h3 h4 h5 h6 h7 h8 h10 h11 h12 h16 h17 h18 h19 h20 h21 hD) rfl rfl ⟨Nat.le_of_ble_eq_true rfl, Nat.le_of_ble_eq_true rfl⟩ hP h0 rfl rfl hl.1 rfl (Nat.le_of_ble_eq_true rfl) dL_law_617 ⟨Nat.le_of_ble_eq_true rfl, Nat.le_of_ble_eq_true rfl⟩) hS (fun w1 H locs hP hD hk hB hS => ?_)
    obtain ⟨hB0, hB1, hB2, hB3, hB4⟩ := hB
    have h16 : w1[16]? = some (a 16, .inr (0, [.ref (a 17), .ref (a 18), .ref (a 19), .ref (a 20), .int u.2.1, .int u.2.2.1])) := hB0
    have h17 : w1[17]? = some (a 17, .inl (cI, 12, .inl u.2.2.2.1)) := hB1
    have h18 : w1[18]? = some (a 18, .inl (cI, 12, .inl u.2.2.2.2.1)) := hB2
    have h19 : w1[19]? = some (a 19, .inl (cI, 12, .inl u.2.2.2.2.2.1)) := hB3
    have h21 : w1[21]? = some (a 21, .inl (cJ, 169, .inr (.inl u.2.2.2.2.2.2))) := hB4
    have h0 := (hk 0 (by decide)).trans h0
    have h1 := (hk 1 (by decide)).trans h1
    have h2 := (hk 2 (by decide)).trans h2
    have h3 := (hk 3 (by decide)).trans h3
    have h4 := (hk 4 (by decide)).trans h4
    have h5 := (hk 5 (by decide)).trans h5
    have h6 := (hk 6 (by decide)).trans h6
    have h7 := (hk 7 (by decide)).trans h7
    have h8 := (hk 8 (by decide)).trans h8
    have h9 := (hk 9 (by decide)).trans h9
    have h10 := (hk 10 (by decide)).trans h10
    have h11 := (hk 11 (by decide)).trans h11
    have h12 := (hk 12 (by decide)).trans h12
    have h13 := (hk 13 (by decide)).trans h13
    have h14 := (hk 14 (by decide)).trans h14
    have h15 := (hk 15 (by decide)).trans h15
    have h20 := (hk 20 (by decide)).trans h20
    have h22 := (hk 22 (by decide)).trans h22
    have h23 := (hk 23 (by decide)).trans h23
    have h24 := (hk 24 (by decide)).trans h24
    have h25 := (hk 25 (by decide)).trans h25
    have h26 := (hk 26 (by decide)).trans h26
    have h27 := (hk 27 (by decide)).trans h27
    have h28 := (hk 28 (by decide)).trans h28
    have h29 := (hk 29 (by decide)).trans h29
    have h30 := (hk 30 (by decide)).trans h30
    have h31 := (hk 31 (by decide)).trans h31
    have h32 := (hk 32 (by decide)).trans h32
    have h33 := (hk 33 (by decide)).trans h33
    have h34 := (hk 34 (by decide)).trans h34
    have h35 := (hk 35 (by decide)).trans h35
    have h36 := (hk 36 (by decide)).trans h36
    have h37 := (hk 37 (by decide)).trans h37
    have h38 := (hk 38 (by decide)).trans h38
    have h39 := (hk 39 (by decide)).trans h39
    have h40 := (hk 40 (by decide)).trans h40
    have h41 := (hk 41 (by decide)).trans h41
    have h42 := (hk 42 (by decide)).trans h42
    have h43 := (hk 43 (by decide)).trans h43
    have h44 := (hk 44 (by decide)).trans h44
    have h45 := (hk 45 (by decide)).trans h45
    have h46 := (hk 46 (by decide)).trans h46
    have h47 := (hk 47 (by decide)).trans h47
    have h48 := (hk 48 (by decide)).trans h48
    have h49 := (hk 49 (by decide)).trans h49
    have h50 := (hk 50 (by decide)).trans h50
    have h51 := (hk 51 (by decide)).trans h51
    refine lv_aload_n hx hb dL_law_620 rfl (lv_at hl 2 rfl) ?_
    refine lv_aload_n hx hb dL_law_621 rfl (lv_at hl 0 rfl) ?_
    refine lv_iload_n hx hb dL_law_622 rfl (lv_at hl 3 rfl) ?_
    refine lv_iconst (v := (1 : Int32)) hx hb dL_law_623 (by decide) ?_
    refine lv_iadd hx hb dL_law_624 ?_
    refine va_sld hx hb hX hbl hbA hS i1 dL_law_625 ?_
    refine lv_aload_n hx hb dL_law_626 rfl (lv_at hl 0 rfl) ?_
    refine lv_iload_n hx hb dL_law_627 rfl (lv_at hl 3 rfl) ?_
    refine lv_iconst (v := (2 : Int32)) hx hb dL_law_628 (by decide) ?_
    refine lv_iadd hx hb dL_law_629 ?_
    refine va_sld hx hb hX hbl hbA hS i2 dL_law_630 ?_
    refine lv_aload_n hx hb dL_law_631 rfl (lv_at hl 0 rfl) ?_
    refine lv_iload_n hx hb dL_law_632 rfl (lv_at hl 3 rfl) ?_
    refine lv_iconst (v := (3 : Int32)) hx hb dL_law_633 (by decide) ?_
    refine lv_iadd hx hb dL_law_634 ?_
    refine va_sld hx hb hX hbl hbA hS i3 dL_law_635 ?_
    refine lv_aload_n hx hb dL_law_636 rfl (lv_at hl 0 rfl) ?_
    refine lv_iload_n hx hb dL_law_637 rfl (lv_at hl 3 rfl) ?_
    refine lv_iconst (v := (4 : Int32)) hx hb dL_law_638 (by decide) ?_
    refine lv_iadd hx hb dL_law_639 ?_
    refine va_sld hx hb hX hbl hbA hS i4 dL_law_640 ?_
    refine lv_if_eq (tgt := 648) hx hb dL_law_641 (by decide) (fun q => absurd q hz) (fun _ => ?_)
    refine lv_iconst (v := (1 : Int32)) hx hb dL_law_644 (by decide) ?_
    refine lv_goto (tgt := 649) hx hb dL_law_645 (by decide) ?_
    refine wr_l (runV (As := [.int (xs (nI i + (1 : Int32)).toNatClampNeg), .int (xs (nI i + (2 : Int32)).toNatClampNeg), .int (xs (nI i + (3 : Int32)).toNatClampNeg), .int (1 : Int32)]) (rest := [.long u.1]) X cq_X9_taken lk_L_72 (c_X9_taken l D cI cJ cZ a w1 (fun q : Nat => s.heap.size ≤ q) m_readMany m_pupils m_mood m_length m_at m_faultAt m_drawn m_questions m_rights m_wrongs m_tapes m_trials m_pupil m_dares m_times m_others (xs (nI i + (1 : Int32)).toNatClampNeg) (xs (nI i + (2 : Int32)).toNatClampNeg) (xs (nI i + (3 : Int32)).toNatClampNeg) (1 : Int32) v hv h35 h37 h38 h39 h42 hD) rfl rfl ⟨Nat.le_of_ble_eq_true rfl, Nat.le_of_ble_eq_true rfl⟩ hP h35 rfl rfl hl.1 rfl (Nat.le_of_ble_eq_true rfl) dL_law_649 ⟨Nat.le_of_ble_eq_true rfl, Nat.le_of_ble_eq_true rfl⟩) hS (fun w2 H locs hP hD hk hB hS => ?_)
    have h42 : w2[42]? = some (a 42, .inl (cJ, 13, .inr (.inl v.2))) := hB
    have h0 := (hk 0 (by decide)).trans h0
    have h1 := (hk 1 (by decide)).trans h1
    have h2 := (hk 2 (by decide)).trans h2
    have h3 := (hk 3 (by decide)).trans h3
    have h4 := (hk 4 (by decide)).trans h4
    have h5 := (hk 5 (by decide)).trans h5
    have h6 := (hk 6 (by decide)).trans h6
    have h7 := (hk 7 (by decide)).trans h7
    have h8 := (hk 8 (by decide)).trans h8
    have h9 := (hk 9 (by decide)).trans h9
    have h10 := (hk 10 (by decide)).trans h10
    have h11 := (hk 11 (by decide)).trans h11
    have h12 := (hk 12 (by decide)).trans h12
    have h13 := (hk 13 (by decide)).trans h13
    have h14 := (hk 14 (by decide)).trans h14
    have h15 := (hk 15 (by decide)).trans h15
    have h16 := (hk 16 (by decide)).trans h16
    have h17 := (hk 17 (by decide)).trans h17
    have h18 := (hk 18 (by decide)).trans h18
    have h19 := (hk 19 (by decide)).trans h19
    have h20 := (hk 20 (by decide)).trans h20
    have h21 := (hk 21 (by decide)).trans h21
    have h22 := (hk 22 (by decide)).trans h22
    have h23 := (hk 23 (by decide)).trans h23
    have h24 := (hk 24 (by decide)).trans h24
    have h25 := (hk 25 (by decide)).trans h25
    have h26 := (hk 26 (by decide)).trans h26
    have h27 := (hk 27 (by decide)).trans h27
    have h28 := (hk 28 (by decide)).trans h28
    have h29 := (hk 29 (by decide)).trans h29
    have h30 := (hk 30 (by decide)).trans h30
    have h31 := (hk 31 (by decide)).trans h31
    have h32 := (hk 32 (by decide)).trans h32
    have h33 := (hk 33 (by decide)).trans h33
    have h34 := (hk 34 (by decide)).trans h34
    have h35 := (hk 35 (by decide)).trans h35
    have h36 := (hk 36 (by decide)).trans h36
    have h37 := (hk 37 (by decide)).trans h37
    have h38 := (hk 38 (by decide)).trans h38
    have h39 := (hk 39 (by decide)).trans h39
    have h40 := (hk 40 (by decide)).trans h40
    have h41 := (hk 41 (by decide)).trans h41
    have h43 := (hk 43 (by decide)).trans h43
    have h44 := (hk 44 (by decide)).trans h44
    have h45 := (hk 45 (by decide)).trans h45
    have h46 := (hk 46 (by decide)).trans h46
    have h47 := (hk 47 (by decide)).trans h47
    have h48 := (hk 48 (by decide)).trans h48
    have h49 := (hk 49 (by decide)).trans h49
    have h50 := (hk 50 (by decide)).trans h50
    have h51 := (hk 51 (by decide)).trans h51
    refine W.lcmp hx hb dL_law_652 ?_
    refine lv_if_eq (tgt := 1535) hx hb dL_law_653 (by decide) (fun _ => ?_) (fun q => absurd ((lc_eq _ _).mpr he) q)
    exact KK tx_length tx_bytes ro_pupils ro_mood ro_letters ro_rows ro_columns ro_tenths ro_needs ro_toldDares le_seed le_questions le_rightOnes le_wrongOnes le_isKept le_dares le_times ha_cells u.2.1 u.2.2.1 u.2.2.2.1 u.2.2.2.2.1 u.2.2.2.2.2.1 u.2.2.2.2.2.2 s1_seed s1_questions s1_rightOnes s1_wrongOnes s1_isKept s1_dares s1_times s2_seed s2_questions s2_rightOnes s2_wrongOnes s2_isKept s2_dares s2_times ta_size ta_hands ta_ones ta_cells tr_waited tr_size tr_hands m_readMany m_pupils m_mood m_length m_at m_faultAt m_drawn m_questions m_rights m_wrongs m_tapes m_trials m_read m_pupil m_dares m_times m_text m_joint v.2 m_tapeHands m_tapeTaken m_trialHands m_trialWaited m_isKept m_keptDares m_keptTimes m_keptDrawn m_keptLesson hR2 _ _ _ hP hD hS ⟨h0, h1, h2, h3, h4, h5, h6, h7, h8, h9, h10, h11, h12, h13, h14, h15, h16, h17, h18, h19, h20, h21, h22, h23, h24, h25, h26, h27, h28, h29, h30, h31, h32, h33, h34, h35, h36, h37, h38, h39, h40, h41, h42, h43, h44, h45, h46, h47, h48, h49, h50, h51⟩ ls hl
set_option maxHeartbeats 4000000 in
set_option maxRecDepth 100000 in
theorem case_13 {p : Program} {l : Launch} {e : Env} {s : State} {m : MethodId} {below : List Frame} {meth : Method} {c : Code} {D : va_G} {cI cJ cZ : ClassId} {a : Nat → Nat} {b L : Nat} {xs : Nat → Int32} (C0 : lw_At p s m meth c b L xs) (X : Cx yL_law code 4 ret D cI cJ cZ p s m #[Value.ref b] meth c) (i : Nat) (hi : i + 5 < L) (hL : L ≤ 3072) (tx_length : Int32) (tx_bytes : Nat → Int32) (ro_pupils : Int32) (ro_mood : Int32) (ro_letters : Nat → Int32) (ro_rows : Nat → Int32) (ro_columns : Nat → Int32) (ro_tenths : Nat → Int32) (ro_needs : Nat → Int32) (ro_toldDares : Nat → Int32) (le_seed : Int64) (le_questions : Int32) (le_rightOnes : Int32) (le_wrongOnes : Int32) (le_isKept : Int32) (le_dares : Nat → Int32) (le_times : Nat → Int32) (ha_cells : Nat → Int64) (ch_pupils : Int32) (ch_rule : Int32) (ch_ranks : Nat → Int32) (ch_eligible : Nat → Int32) (ch_eligibleAndRight : Nat → Int32) (ch_cells : Nat → Int64) (s1_seed : Int64) (s1_questions : Int32) (s1_rightOnes : Int32) (s1_wrongOnes : Int32) (s1_isKept : Int32) (s1_dares : Nat → Int32) (s1_times : Nat → Int32) (s2_seed : Int64) (s2_questions : Int32) (s2_rightOnes : Int32) (s2_wrongOnes : Int32) (s2_isKept : Int32) (s2_dares : Nat → Int32) (s2_times : Nat → Int32) (ta_size : Int32) (ta_hands : Nat → Int32) (ta_ones : Nat → Int32) (ta_cells : Nat → Int64) (tr_waited : Int32) (tr_size : Int32) (tr_hands : Nat → Int32) (m_readMany : Int32) (m_pupils : Int32) (m_mood : Int32) (m_length : Int32) (m_at : Int32) (m_faultAt : Int32) (m_drawn : Int64) (m_questions : Int32) (m_rights : Int32) (m_wrongs : Int32) (m_tapes : Int32) (m_trials : Int32) (m_read : Nat → Int32) (m_pupil : Nat → Int32) (m_dares : Nat → Int32) (m_times : Nat → Int32) (m_text : Nat → Int32) (m_joint : Nat → Int64) (m_others : Nat → Int64) (m_tapeHands : Nat → Int32) (m_tapeTaken : Nat → Int32) (m_trialHands : Nat → Int32) (m_trialWaited : Nat → Int32) (m_isKept : Nat → Int32) (m_keptDares : Nat → Int32) (m_keptTimes : Nat → Int32) (m_keptDrawn : Nat → Int64) (m_keptLesson : Nat → Int32) (hR : Rel i tx_length tx_bytes ro_pupils ro_mood ro_letters ro_rows ro_columns ro_tenths ro_needs ro_toldDares le_seed le_questions le_rightOnes le_wrongOnes le_dares le_times s1_seed s1_questions s1_rightOnes s1_wrongOnes s1_isKept s1_dares s1_times s2_seed s2_questions s2_rightOnes s2_wrongOnes s2_isKept s2_dares s2_times ta_size ta_hands ta_ones tr_waited tr_size tr_hands m_pupils m_mood m_length m_drawn m_questions m_rights m_wrongs m_tapes m_trials m_pupil m_dares m_times m_text m_tapeHands m_tapeTaken m_trialHands m_trialWaited m_isKept m_keptDares m_keptTimes m_keptDrawn m_keptLesson) (ws0 : va_W) (H : Heap) (locs : List Loc) (hP : va_P D vwCl ws0 H) (hD : va_D (fun q : Nat => s.heap.size ≤ q) ws0) (hS : va_S (fun q : Nat => s.heap.size ≤ q) s.heap H locs) (hw : wAll a cI cJ cZ ws0 tx_length tx_bytes ro_pupils ro_mood ro_letters ro_rows ro_columns ro_tenths ro_needs ro_toldDares le_seed le_questions le_rightOnes le_wrongOnes le_isKept le_dares le_times ha_cells ch_pupils ch_rule ch_ranks ch_eligible ch_eligibleAndRight ch_cells s1_seed s1_questions s1_rightOnes s1_wrongOnes s1_isKept s1_dares s1_times s2_seed s2_questions s2_rightOnes s2_wrongOnes s2_isKept s2_dares s2_times ta_size ta_hands ta_ones ta_cells tr_waited tr_size tr_hands m_readMany m_pupils m_mood m_length m_at m_faultAt m_drawn m_questions m_rights m_wrongs m_tapes m_trials m_read m_pupil m_dares m_times m_text m_joint m_others m_tapeHands m_tapeTaken m_trialHands m_trialWaited m_isKept m_keptDares m_keptTimes m_keptDrawn m_keptLesson) (ls : Array Slot) (hl : lv_has ls 4 [(0, .ref b), (1, .ref (a 0)), (2, .ref (a 35)), (3, .int (nI i))]) (KK : ∀ (tx_length : Int32) (tx_bytes : Nat → Int32) (ro_pupils : Int32) (ro_mood : Int32) (ro_letters : Nat → Int32) (ro_rows : Nat → Int32) (ro_columns : Nat → Int32) (ro_tenths : Nat → Int32) (ro_needs : Nat → Int32) (ro_toldDares : Nat → Int32) (le_seed : Int64) (le_questions : Int32) (le_rightOnes : Int32) (le_wrongOnes : Int32) (le_isKept : Int32) (le_dares : Nat → Int32) (le_times : Nat → Int32) (ha_cells : Nat → Int64) (ch_pupils : Int32) (ch_rule : Int32) (ch_ranks : Nat → Int32) (ch_eligible : Nat → Int32) (ch_eligibleAndRight : Nat → Int32) (ch_cells : Nat → Int64) (s1_seed : Int64) (s1_questions : Int32) (s1_rightOnes : Int32) (s1_wrongOnes : Int32) (s1_isKept : Int32) (s1_dares : Nat → Int32) (s1_times : Nat → Int32) (s2_seed : Int64) (s2_questions : Int32) (s2_rightOnes : Int32) (s2_wrongOnes : Int32) (s2_isKept : Int32) (s2_dares : Nat → Int32) (s2_times : Nat → Int32) (ta_size : Int32) (ta_hands : Nat → Int32) (ta_ones : Nat → Int32) (ta_cells : Nat → Int64) (tr_waited : Int32) (tr_size : Int32) (tr_hands : Nat → Int32) (m_readMany : Int32) (m_pupils : Int32) (m_mood : Int32) (m_length : Int32) (m_at : Int32) (m_faultAt : Int32) (m_drawn : Int64) (m_questions : Int32) (m_rights : Int32) (m_wrongs : Int32) (m_tapes : Int32) (m_trials : Int32) (m_read : Nat → Int32) (m_pupil : Nat → Int32) (m_dares : Nat → Int32) (m_times : Nat → Int32) (m_text : Nat → Int32) (m_joint : Nat → Int64) (m_others : Nat → Int64) (m_tapeHands : Nat → Int32) (m_tapeTaken : Nat → Int32) (m_trialHands : Nat → Int32) (m_trialWaited : Nat → Int32) (m_isKept : Nat → Int32) (m_keptDares : Nat → Int32) (m_keptTimes : Nat → Int32) (m_keptDrawn : Nat → Int64) (m_keptLesson : Nat → Int32), Rel (i + 1) tx_length tx_bytes ro_pupils ro_mood ro_letters ro_rows ro_columns ro_tenths ro_needs ro_toldDares le_seed le_questions le_rightOnes le_wrongOnes le_dares le_times s1_seed s1_questions s1_rightOnes s1_wrongOnes s1_isKept s1_dares s1_times s2_seed s2_questions s2_rightOnes s2_wrongOnes s2_isKept s2_dares s2_times ta_size ta_hands ta_ones tr_waited tr_size tr_hands m_pupils m_mood m_length m_drawn m_questions m_rights m_wrongs m_tapes m_trials m_pupil m_dares m_times m_text m_tapeHands m_tapeTaken m_trialHands m_trialWaited m_isKept m_keptDares m_keptTimes m_keptDrawn m_keptLesson → ∀ (w : va_W) (H : Heap) (locs : List Loc), va_P D vwCl w H → va_D (fun q : Nat => s.heap.size ≤ q) w → va_S (fun q : Nat => s.heap.size ≤ q) s.heap H locs → wAll a cI cJ cZ w tx_length tx_bytes ro_pupils ro_mood ro_letters ro_rows ro_columns ro_tenths ro_needs ro_toldDares le_seed le_questions le_rightOnes le_wrongOnes le_isKept le_dares le_times ha_cells ch_pupils ch_rule ch_ranks ch_eligible ch_eligibleAndRight ch_cells s1_seed s1_questions s1_rightOnes s1_wrongOnes s1_isKept s1_dares s1_times s2_seed s2_questions s2_rightOnes s2_wrongOnes s2_isKept s2_dares s2_times ta_size ta_hands ta_ones ta_cells tr_waited tr_size tr_hands m_readMany m_pupils m_mood m_length m_at m_faultAt m_drawn m_questions m_rights m_wrongs m_tapes m_trials m_read m_pupil m_dares m_times m_text m_joint m_others m_tapeHands m_tapeTaken m_trialHands m_trialWaited m_isKept m_keptDares m_keptTimes m_keptDrawn m_keptLesson → ∀ ls : Array Slot, lv_has ls 4 [(0, .ref b), (1, .ref (a 0)), (2, .ref (a 35)), (3, .int (nI i))] → W p l e room_1 s m #[Value.ref b] below meth c H locs 52 1402 (lw_Z below #[Value.ref b] s) (F0 m 1535 ls [])) : W p l e room_1 s m #[Value.ref b] below meth c H locs 52 1402 (lw_Z below #[Value.ref b] s) (F0 m 658 ls []) := by
  obtain ⟨-, -, -, -, -, -, hX, hbl, -, -⟩ := C0
  obtain ⟨hx, hb, hr, hml, hown, hts, hlk, hK, hN⟩ := id X
  have hown : s.vm.findClass RL = some m.cls := hown
  have hbA : ¬ (fun q : Nat => s.heap.size ≤ q) b := Nat.not_le.mpr hbl
  obtain ⟨h0, h1, h2, h3, h4, h5, h6, h7, h8, h9, h10, h11, h12, h13, h14, h15, h16, h17, h18, h19, h20, h21, h22, h23, h24, h25, h26, h27, h28, h29, h30, h31, h32, h33, h34, h35, h36, h37, h38, h39, h40, h41, h42, h43, h44, h45, h46, h47, h48, h49, h50, h51⟩ := hw
  have i1 : vp_in (nI i + (1 : Int32)) L := by rw [show (1 : Int32) = nI 1 from rfl, nI_add]; exact vp_in_nI (by omega) (by omega)
  have i2 : vp_in (nI i + (2 : Int32)) L := by rw [show (2 : Int32) = nI 2 from rfl, nI_add]; exact vp_in_nI (by omega) (by omega)
  have i3 : vp_in (nI i + (3 : Int32)) L := by rw [show (3 : Int32) = nI 3 from rfl, nI_add]; exact vp_in_nI (by omega) (by omega)
  have i4 : vp_in (nI i + (4 : Int32)) L := by rw [show (4 : Int32) = nI 4 from rfl, nI_add]; exact vp_in_nI (by omega) (by omega)
  have i5 : vp_in (nI i + (5 : Int32)) L := by rw [show (5 : Int32) = nI 5 from rfl, nI_add]; exact vp_in_nI (by omega) (by omega)
  by_cases hz : xs (nI i + (3 : Int32)).toNatClampNeg = 0
  · obtain ⟨u, v, hu, hv, he, hR2⟩ := P_right i (by omega) tx_length tx_bytes ro_pupils ro_mood ro_letters ro_rows ro_columns ro_tenths ro_needs ro_toldDares le_seed le_questions le_rightOnes le_wrongOnes le_isKept le_dares le_times ha_cells ch_pupils ch_rule ch_ranks ch_eligible ch_eligibleAndRight ch_cells s1_seed s1_questions s1_rightOnes s1_wrongOnes s1_isKept s1_dares s1_times s2_seed s2_questions s2_rightOnes s2_wrongOnes s2_isKept s2_dares s2_times ta_size ta_hands ta_ones ta_cells tr_waited tr_size tr_hands m_readMany m_pupils m_mood m_length m_at m_faultAt m_drawn m_questions m_rights m_wrongs m_tapes m_trials m_read m_pupil m_dares m_times m_text m_joint m_others m_tapeHands m_tapeTaken m_trialHands m_trialWaited m_isKept m_keptDares m_keptTimes m_keptDrawn m_keptLesson (xs (nI i + (1 : Int32)).toNatClampNeg) (xs (nI i + (2 : Int32)).toNatClampNeg) (0 : Int32) (by decide) hR
    refine lv_aload_n hx hb dL_law_658 rfl (lv_at hl 1 rfl) ?_
    refine lv_aload_n hx hb dL_law_659 rfl (lv_at hl 0 rfl) ?_
    refine lv_iload_n hx hb dL_law_660 rfl (lv_at hl 3 rfl) ?_
    refine lv_iconst (v := (1 : Int32)) hx hb dL_law_661 (by decide) ?_
    refine lv_iadd hx hb dL_law_662 ?_
    refine va_sld hx hb hX hbl hbA hS i1 dL_law_663 ?_
    refine lv_aload_n hx hb dL_law_664 rfl (lv_at hl 0 rfl) ?_
    refine lv_iload_n hx hb dL_law_665 rfl (lv_at hl 3 rfl) ?_
    refine lv_iconst (v := (2 : Int32)) hx hb dL_law_666 (by decide) ?_
    refine lv_iadd hx hb dL_law_667 ?_
    refine va_sld hx hb hX hbl hbA hS i2 dL_law_668 ?_
    refine lv_aload_n hx hb dL_law_669 rfl (lv_at hl 0 rfl) ?_
    refine lv_iload_n hx hb dL_law_670 rfl (lv_at hl 3 rfl) ?_
    refine lv_iconst (v := (3 : Int32)) hx hb dL_law_671 (by decide) ?_
    refine lv_iadd hx hb dL_law_672 ?_
    refine va_sld hx hb hX hbl hbA hS i3 dL_law_673 ?_
    refine lv_if_eq (tgt := 681) hx hb dL_law_674 (by decide) (fun _ => ?_) (fun q => absurd hz q)
    refine lv_iconst (v := (0 : Int32)) hx hb dL_law_681 (by decide) ?_
    refine wr_l (runV (As := [.int (xs (nI i + (1 : Int32)).toNatClampNeg), .int (xs (nI i + (2 : Int32)).toNatClampNeg), .int (0 : Int32)]) (rest := []) X cq_X8_right lk_L_73 (c_X8_right l D cI cJ cZ a ws0 (fun q : Nat => s.heap.size ≤ q) ro_pupils ro_mood ro_letters ro_rows ro_columns ro_tenths ro_needs le_seed le_questions le_rightOnes le_wrongOnes le_isKept le_dares le_times ch_pupils ch_rule ch_ranks ch_eligible ch_eligibleAndRight ch_cells (xs (nI i + (1 : Int32)).toNatClampNeg) (xs (nI i + (2 : Int32)).toNatClampNeg) (0 : Int32) u hu h0 h3 h4 h5 h6 h7 h8 h10 h11 h12 h16 h17 h18 h19 h20 h21 hD) rfl rfl ⟨Nat.le_of_ble_eq_true rfl, Nat.le_of_ble_eq_true rfl⟩ hP h0 rfl rfl hl.1 rfl (Nat.le_of_ble_eq_true rfl) dL_law_682 ⟨Nat.le_of_ble_eq_true rfl, Nat.le_of_ble_eq_true rfl⟩) hS (fun w1 H locs hP hD hk hB hS => ?_)
    obtain ⟨hB0, hB1, hB2, hB3, hB4⟩ := hB
    have h16 : w1[16]? = some (a 16, .inr (0, [.ref (a 17), .ref (a 18), .ref (a 19), .ref (a 20), .int u.2.1, .int u.2.2.1])) := hB0
    have h17 : w1[17]? = some (a 17, .inl (cI, 12, .inl u.2.2.2.1)) := hB1
    have h18 : w1[18]? = some (a 18, .inl (cI, 12, .inl u.2.2.2.2.1)) := hB2
    have h19 : w1[19]? = some (a 19, .inl (cI, 12, .inl u.2.2.2.2.2.1)) := hB3
    have h21 : w1[21]? = some (a 21, .inl (cJ, 169, .inr (.inl u.2.2.2.2.2.2))) := hB4
    have h0 := (hk 0 (by decide)).trans h0
    have h1 := (hk 1 (by decide)).trans h1
    have h2 := (hk 2 (by decide)).trans h2
    have h3 := (hk 3 (by decide)).trans h3
    have h4 := (hk 4 (by decide)).trans h4
    have h5 := (hk 5 (by decide)).trans h5
    have h6 := (hk 6 (by decide)).trans h6
    have h7 := (hk 7 (by decide)).trans h7
    have h8 := (hk 8 (by decide)).trans h8
    have h9 := (hk 9 (by decide)).trans h9
    have h10 := (hk 10 (by decide)).trans h10
    have h11 := (hk 11 (by decide)).trans h11
    have h12 := (hk 12 (by decide)).trans h12
    have h13 := (hk 13 (by decide)).trans h13
    have h14 := (hk 14 (by decide)).trans h14
    have h15 := (hk 15 (by decide)).trans h15
    have h20 := (hk 20 (by decide)).trans h20
    have h22 := (hk 22 (by decide)).trans h22
    have h23 := (hk 23 (by decide)).trans h23
    have h24 := (hk 24 (by decide)).trans h24
    have h25 := (hk 25 (by decide)).trans h25
    have h26 := (hk 26 (by decide)).trans h26
    have h27 := (hk 27 (by decide)).trans h27
    have h28 := (hk 28 (by decide)).trans h28
    have h29 := (hk 29 (by decide)).trans h29
    have h30 := (hk 30 (by decide)).trans h30
    have h31 := (hk 31 (by decide)).trans h31
    have h32 := (hk 32 (by decide)).trans h32
    have h33 := (hk 33 (by decide)).trans h33
    have h34 := (hk 34 (by decide)).trans h34
    have h35 := (hk 35 (by decide)).trans h35
    have h36 := (hk 36 (by decide)).trans h36
    have h37 := (hk 37 (by decide)).trans h37
    have h38 := (hk 38 (by decide)).trans h38
    have h39 := (hk 39 (by decide)).trans h39
    have h40 := (hk 40 (by decide)).trans h40
    have h41 := (hk 41 (by decide)).trans h41
    have h42 := (hk 42 (by decide)).trans h42
    have h43 := (hk 43 (by decide)).trans h43
    have h44 := (hk 44 (by decide)).trans h44
    have h45 := (hk 45 (by decide)).trans h45
    have h46 := (hk 46 (by decide)).trans h46
    have h47 := (hk 47 (by decide)).trans h47
    have h48 := (hk 48 (by decide)).trans h48
    have h49 := (hk 49 (by decide)).trans h49
    have h50 := (hk 50 (by decide)).trans h50
    have h51 := (hk 51 (by decide)).trans h51
    refine lv_aload_n hx hb dL_law_685 rfl (lv_at hl 2 rfl) ?_
    refine lv_aload_n hx hb dL_law_686 rfl (lv_at hl 0 rfl) ?_
    refine lv_iload_n hx hb dL_law_687 rfl (lv_at hl 3 rfl) ?_
    refine lv_iconst (v := (1 : Int32)) hx hb dL_law_688 (by decide) ?_
    refine lv_iadd hx hb dL_law_689 ?_
    refine va_sld hx hb hX hbl hbA hS i1 dL_law_690 ?_
    refine lv_aload_n hx hb dL_law_691 rfl (lv_at hl 0 rfl) ?_
    refine lv_iload_n hx hb dL_law_692 rfl (lv_at hl 3 rfl) ?_
    refine lv_iconst (v := (2 : Int32)) hx hb dL_law_693 (by decide) ?_
    refine lv_iadd hx hb dL_law_694 ?_
    refine va_sld hx hb hX hbl hbA hS i2 dL_law_695 ?_
    refine lv_aload_n hx hb dL_law_696 rfl (lv_at hl 0 rfl) ?_
    refine lv_iload_n hx hb dL_law_697 rfl (lv_at hl 3 rfl) ?_
    refine lv_iconst (v := (3 : Int32)) hx hb dL_law_698 (by decide) ?_
    refine lv_iadd hx hb dL_law_699 ?_
    refine va_sld hx hb hX hbl hbA hS i3 dL_law_700 ?_
    refine lv_if_eq (tgt := 708) hx hb dL_law_701 (by decide) (fun _ => ?_) (fun q => absurd hz q)
    refine lv_iconst (v := (0 : Int32)) hx hb dL_law_708 (by decide) ?_
    refine wr_l (runV (As := [.int (xs (nI i + (1 : Int32)).toNatClampNeg), .int (xs (nI i + (2 : Int32)).toNatClampNeg), .int (0 : Int32)]) (rest := [.long u.1]) X cq_X9_right lk_L_76 (c_X9_right l D cI cJ cZ a w1 (fun q : Nat => s.heap.size ≤ q) m_readMany m_pupils m_mood m_length m_at m_faultAt m_drawn m_questions m_rights m_wrongs m_tapes m_trials m_pupil m_dares m_times m_others (xs (nI i + (1 : Int32)).toNatClampNeg) (xs (nI i + (2 : Int32)).toNatClampNeg) (0 : Int32) v hv h35 h37 h38 h39 h42 hD) rfl rfl ⟨Nat.le_of_ble_eq_true rfl, Nat.le_of_ble_eq_true rfl⟩ hP h35 rfl rfl hl.1 rfl (Nat.le_of_ble_eq_true rfl) dL_law_709 ⟨Nat.le_of_ble_eq_true rfl, Nat.le_of_ble_eq_true rfl⟩) hS (fun w2 H locs hP hD hk hB hS => ?_)
    have h42 : w2[42]? = some (a 42, .inl (cJ, 13, .inr (.inl v.2))) := hB
    have h0 := (hk 0 (by decide)).trans h0
    have h1 := (hk 1 (by decide)).trans h1
    have h2 := (hk 2 (by decide)).trans h2
    have h3 := (hk 3 (by decide)).trans h3
    have h4 := (hk 4 (by decide)).trans h4
    have h5 := (hk 5 (by decide)).trans h5
    have h6 := (hk 6 (by decide)).trans h6
    have h7 := (hk 7 (by decide)).trans h7
    have h8 := (hk 8 (by decide)).trans h8
    have h9 := (hk 9 (by decide)).trans h9
    have h10 := (hk 10 (by decide)).trans h10
    have h11 := (hk 11 (by decide)).trans h11
    have h12 := (hk 12 (by decide)).trans h12
    have h13 := (hk 13 (by decide)).trans h13
    have h14 := (hk 14 (by decide)).trans h14
    have h15 := (hk 15 (by decide)).trans h15
    have h16 := (hk 16 (by decide)).trans h16
    have h17 := (hk 17 (by decide)).trans h17
    have h18 := (hk 18 (by decide)).trans h18
    have h19 := (hk 19 (by decide)).trans h19
    have h20 := (hk 20 (by decide)).trans h20
    have h21 := (hk 21 (by decide)).trans h21
    have h22 := (hk 22 (by decide)).trans h22
    have h23 := (hk 23 (by decide)).trans h23
    have h24 := (hk 24 (by decide)).trans h24
    have h25 := (hk 25 (by decide)).trans h25
    have h26 := (hk 26 (by decide)).trans h26
    have h27 := (hk 27 (by decide)).trans h27
    have h28 := (hk 28 (by decide)).trans h28
    have h29 := (hk 29 (by decide)).trans h29
    have h30 := (hk 30 (by decide)).trans h30
    have h31 := (hk 31 (by decide)).trans h31
    have h32 := (hk 32 (by decide)).trans h32
    have h33 := (hk 33 (by decide)).trans h33
    have h34 := (hk 34 (by decide)).trans h34
    have h35 := (hk 35 (by decide)).trans h35
    have h36 := (hk 36 (by decide)).trans h36
    have h37 := (hk 37 (by decide)).trans h37
    have h38 := (hk 38 (by decide)).trans h38
    have h39 := (hk 39 (by decide)).trans h39
    have h40 := (hk 40 (by decide)).trans h40
    have h41 := (hk 41 (by decide)).trans h41
    have h43 := (hk 43 (by decide)).trans h43
    have h44 := (hk 44 (by decide)).trans h44
    have h45 := (hk 45 (by decide)).trans h45
    have h46 := (hk 46 (by decide)).trans h46
    have h47 := (hk 47 (by decide)).trans h47
    have h48 := (hk 48 (by decide)).trans h48
    have h49 := (hk 49 (by decide)).trans h49
    have h50 := (hk 50 (by decide)).trans h50
    have h51 := (hk 51 (by decide)).trans h51
    refine W.lcmp hx hb dL_law_712 ?_
    refine lv_if_eq (tgt := 1535) hx hb dL_law_713 (by decide) (fun _ => ?_) (fun q => absurd ((lc_eq _ _).mpr he) q)
    exact KK tx_length tx_bytes ro_pupils ro_mood ro_letters ro_rows ro_columns ro_tenths ro_needs ro_toldDares le_seed le_questions le_rightOnes le_wrongOnes le_isKept le_dares le_times ha_cells u.2.1 u.2.2.1 u.2.2.2.1 u.2.2.2.2.1 u.2.2.2.2.2.1 u.2.2.2.2.2.2 s1_seed s1_questions s1_rightOnes s1_wrongOnes s1_isKept s1_dares s1_times s2_seed s2_questions s2_rightOnes s2_wrongOnes s2_isKept s2_dares s2_times ta_size ta_hands ta_ones ta_cells tr_waited tr_size tr_hands m_readMany m_pupils m_mood m_length m_at m_faultAt m_drawn m_questions m_rights m_wrongs m_tapes m_trials m_read m_pupil m_dares m_times m_text m_joint v.2 m_tapeHands m_tapeTaken m_trialHands m_trialWaited m_isKept m_keptDares m_keptTimes m_keptDrawn m_keptLesson hR2 _ _ _ hP hD hS ⟨h0, h1, h2, h3, h4, h5, h6, h7, h8, h9, h10, h11, h12, h13, h14, h15, h16, h17, h18, h19, h20, h21, h22, h23, h24, h25, h26, h27, h28, h29, h30, h31, h32, h33, h34, h35, h36, h37, h38, h39, h40, h41, h42, h43, h44, h45, h46, h47, h48, h49, h50, h51⟩ ls hl
  · obtain ⟨u, v, hu, hv, he, hR2⟩ := P_right i (by omega) tx_length tx_bytes ro_pupils ro_mood ro_letters ro_rows ro_columns ro_tenths ro_needs ro_toldDares le_seed le_questions le_rightOnes le_wrongOnes le_isKept le_dares le_times ha_cells ch_pupils ch_rule ch_ranks ch_eligible ch_eligibleAndRight ch_cells s1_seed s1_questions s1_rightOnes s1_wrongOnes s1_isKept s1_dares s1_times s2_seed s2_questions s2_rightOnes s2_wrongOnes s2_isKept s2_dares s2_times ta_size ta_hands ta_ones ta_cells tr_waited tr_size tr_hands m_readMany m_pupils m_mood m_length m_at m_faultAt m_drawn m_questions m_rights m_wrongs m_tapes m_trials m_read m_pupil m_dares m_times m_text m_joint m_others m_tapeHands m_tapeTaken m_trialHands m_trialWaited m_isKept m_keptDares m_keptTimes m_keptDrawn m_keptLesson (xs (nI i + (1 : Int32)).toNatClampNeg) (xs (nI i + (2 : Int32)).toNatClampNeg) (1 : Int32) (by decide) hR
    refine lv_aload_n hx hb dL_law_658 rfl (lv_at hl 1 rfl) ?_
    refine lv_aload_n hx hb dL_law_659 rfl (lv_at hl 0 rfl) ?_
    refine lv_iload_n hx hb dL_law_660 rfl (lv_at hl 3 rfl) ?_
    refine lv_iconst (v := (1 : Int32)) hx hb dL_law_661 (by decide) ?_
    refine lv_iadd hx hb dL_law_662 ?_
    refine va_sld hx hb hX hbl hbA hS i1 dL_law_663 ?_
    refine lv_aload_n hx hb dL_law_664 rfl (lv_at hl 0 rfl) ?_
    refine lv_iload_n hx hb dL_law_665 rfl (lv_at hl 3 rfl) ?_
    refine lv_iconst (v := (2 : Int32)) hx hb dL_law_666 (by decide) ?_
    refine lv_iadd hx hb dL_law_667 ?_
    refine va_sld hx hb hX hbl hbA hS i2 dL_law_668 ?_
    refine lv_aload_n hx hb dL_law_669 rfl (lv_at hl 0 rfl) ?_
    refine lv_iload_n hx hb dL_law_670 rfl (lv_at hl 3 rfl) ?_
    refine lv_iconst (v := (3 : Int32)) hx hb dL_law_671 (by decide) ?_
    refine lv_iadd hx hb dL_law_672 ?_
    refine va_sld hx hb hX hbl hbA hS i3 dL_law_673 ?_
    refine lv_if_eq (tgt := 681) hx hb dL_law_674 (by decide) (fun q => absurd q hz) (fun _ => ?_)
    refine lv_iconst (v := (1 : Int32)) hx hb dL_law_677 (by decide) ?_
    refine lv_goto (tgt := 682) hx hb dL_law_678 (by decide) ?_
    refine wr_l (runV (As := [.int (xs (nI i + (1 : Int32)).toNatClampNeg), .int (xs (nI i + (2 : Int32)).toNatClampNeg), .int (1 : Int32)]) (rest := []) X cq_X8_right lk_L_73 (c_X8_right l D cI cJ cZ a ws0 (fun q : Nat => s.heap.size ≤ q) ro_pupils ro_mood ro_letters ro_rows ro_columns ro_tenths ro_needs le_seed le_questions le_rightOnes le_wrongOnes le_isKept le_dares le_times ch_pupils ch_rule ch_ranks ch_eligible ch_eligibleAndRight ch_cells (xs (nI i + (1 : Int32)).toNatClampNeg) (xs (nI i + (2 : Int32)).toNatClampNeg) (1 : Int32) u hu h0 h3 h4 h5 h6 h7 h8 h10 h11 h12 h16 h17 h18 h19 h20 h21 hD) rfl rfl ⟨Nat.le_of_ble_eq_true rfl, Nat.le_of_ble_eq_true rfl⟩ hP h0 rfl rfl hl.1 rfl (Nat.le_of_ble_eq_true rfl) dL_law_682 ⟨Nat.le_of_ble_eq_true rfl, Nat.le_of_ble_eq_true rfl⟩) hS (fun w1 H locs hP hD hk hB hS => ?_)
    obtain ⟨hB0, hB1, hB2, hB3, hB4⟩ := hB
    have h16 : w1[16]? = some (a 16, .inr (0, [.ref (a 17), .ref (a 18), .ref (a 19), .ref (a 20), .int u.2.1, .int u.2.2.1])) := hB0
    have h17 : w1[17]? = some (a 17, .inl (cI, 12, .inl u.2.2.2.1)) := hB1
    have h18 : w1[18]? = some (a 18, .inl (cI, 12, .inl u.2.2.2.2.1)) := hB2
    have h19 : w1[19]? = some (a 19, .inl (cI, 12, .inl u.2.2.2.2.2.1)) := hB3
    have h21 : w1[21]? = some (a 21, .inl (cJ, 169, .inr (.inl u.2.2.2.2.2.2))) := hB4
    have h0 := (hk 0 (by decide)).trans h0
    have h1 := (hk 1 (by decide)).trans h1
    have h2 := (hk 2 (by decide)).trans h2
    have h3 := (hk 3 (by decide)).trans h3
    have h4 := (hk 4 (by decide)).trans h4
    have h5 := (hk 5 (by decide)).trans h5
    have h6 := (hk 6 (by decide)).trans h6
    have h7 := (hk 7 (by decide)).trans h7
    have h8 := (hk 8 (by decide)).trans h8
    have h9 := (hk 9 (by decide)).trans h9
    have h10 := (hk 10 (by decide)).trans h10
    have h11 := (hk 11 (by decide)).trans h11
    have h12 := (hk 12 (by decide)).trans h12
    have h13 := (hk 13 (by decide)).trans h13
    have h14 := (hk 14 (by decide)).trans h14
    have h15 := (hk 15 (by decide)).trans h15
    have h20 := (hk 20 (by decide)).trans h20
    have h22 := (hk 22 (by decide)).trans h22
    have h23 := (hk 23 (by decide)).trans h23
    have h24 := (hk 24 (by decide)).trans h24
    have h25 := (hk 25 (by decide)).trans h25
    have h26 := (hk 26 (by decide)).trans h26
    have h27 := (hk 27 (by decide)).trans h27
    have h28 := (hk 28 (by decide)).trans h28
    have h29 := (hk 29 (by decide)).trans h29
    have h30 := (hk 30 (by decide)).trans h30
    have h31 := (hk 31 (by decide)).trans h31
    have h32 := (hk 32 (by decide)).trans h32
    have h33 := (hk 33 (by decide)).trans h33
    have h34 := (hk 34 (by decide)).trans h34
    have h35 := (hk 35 (by decide)).trans h35
    have h36 := (hk 36 (by decide)).trans h36
    have h37 := (hk 37 (by decide)).trans h37
    have h38 := (hk 38 (by decide)).trans h38
    have h39 := (hk 39 (by decide)).trans h39
    have h40 := (hk 40 (by decide)).trans h40
    have h41 := (hk 41 (by decide)).trans h41
    have h42 := (hk 42 (by decide)).trans h42
    have h43 := (hk 43 (by decide)).trans h43
    have h44 := (hk 44 (by decide)).trans h44
    have h45 := (hk 45 (by decide)).trans h45
    have h46 := (hk 46 (by decide)).trans h46
    have h47 := (hk 47 (by decide)).trans h47
    have h48 := (hk 48 (by decide)).trans h48
    have h49 := (hk 49 (by decide)).trans h49
    have h50 := (hk 50 (by decide)).trans h50
    have h51 := (hk 51 (by decide)).trans h51
    refine lv_aload_n hx hb dL_law_685 rfl (lv_at hl 2 rfl) ?_
    refine lv_aload_n hx hb dL_law_686 rfl (lv_at hl 0 rfl) ?_
    refine lv_iload_n hx hb dL_law_687 rfl (lv_at hl 3 rfl) ?_
    refine lv_iconst (v := (1 : Int32)) hx hb dL_law_688 (by decide) ?_
    refine lv_iadd hx hb dL_law_689 ?_
    refine va_sld hx hb hX hbl hbA hS i1 dL_law_690 ?_
    refine lv_aload_n hx hb dL_law_691 rfl (lv_at hl 0 rfl) ?_
    refine lv_iload_n hx hb dL_law_692 rfl (lv_at hl 3 rfl) ?_
    refine lv_iconst (v := (2 : Int32)) hx hb dL_law_693 (by decide) ?_
    refine lv_iadd hx hb dL_law_694 ?_
    refine va_sld hx hb hX hbl hbA hS i2 dL_law_695 ?_
    refine lv_aload_n hx hb dL_law_696 rfl (lv_at hl 0 rfl) ?_
    refine lv_iload_n hx hb dL_law_697 rfl (lv_at hl 3 rfl) ?_
    refine lv_iconst (v := (3 : Int32)) hx hb dL_law_698 (by decide) ?_
    refine lv_iadd hx hb dL_law_699 ?_
    refine va_sld hx hb hX hbl hbA hS i3 dL_law_700 ?_
    refine lv_if_eq (tgt := 708) hx hb dL_law_701 (by decide) (fun q => absurd q hz) (fun _ => ?_)
    refine lv_iconst (v := (1 : Int32)) hx hb dL_law_704 (by decide) ?_
    refine lv_goto (tgt := 709) hx hb dL_law_705 (by decide) ?_
    refine wr_l (runV (As := [.int (xs (nI i + (1 : Int32)).toNatClampNeg), .int (xs (nI i + (2 : Int32)).toNatClampNeg), .int (1 : Int32)]) (rest := [.long u.1]) X cq_X9_right lk_L_76 (c_X9_right l D cI cJ cZ a w1 (fun q : Nat => s.heap.size ≤ q) m_readMany m_pupils m_mood m_length m_at m_faultAt m_drawn m_questions m_rights m_wrongs m_tapes m_trials m_pupil m_dares m_times m_others (xs (nI i + (1 : Int32)).toNatClampNeg) (xs (nI i + (2 : Int32)).toNatClampNeg) (1 : Int32) v hv h35 h37 h38 h39 h42 hD) rfl rfl ⟨Nat.le_of_ble_eq_true rfl, Nat.le_of_ble_eq_true rfl⟩ hP h35 rfl rfl hl.1 rfl (Nat.le_of_ble_eq_true rfl) dL_law_709 ⟨Nat.le_of_ble_eq_true rfl, Nat.le_of_ble_eq_true rfl⟩) hS (fun w2 H locs hP hD hk hB hS => ?_)
    have h42 : w2[42]? = some (a 42, .inl (cJ, 13, .inr (.inl v.2))) := hB
    have h0 := (hk 0 (by decide)).trans h0
    have h1 := (hk 1 (by decide)).trans h1
    have h2 := (hk 2 (by decide)).trans h2
    have h3 := (hk 3 (by decide)).trans h3
    have h4 := (hk 4 (by decide)).trans h4
    have h5 := (hk 5 (by decide)).trans h5
    have h6 := (hk 6 (by decide)).trans h6
    have h7 := (hk 7 (by decide)).trans h7
    have h8 := (hk 8 (by decide)).trans h8
    have h9 := (hk 9 (by decide)).trans h9
    have h10 := (hk 10 (by decide)).trans h10
    have h11 := (hk 11 (by decide)).trans h11
    have h12 := (hk 12 (by decide)).trans h12
    have h13 := (hk 13 (by decide)).trans h13
    have h14 := (hk 14 (by decide)).trans h14
    have h15 := (hk 15 (by decide)).trans h15
    have h16 := (hk 16 (by decide)).trans h16
    have h17 := (hk 17 (by decide)).trans h17
    have h18 := (hk 18 (by decide)).trans h18
    have h19 := (hk 19 (by decide)).trans h19
    have h20 := (hk 20 (by decide)).trans h20
    have h21 := (hk 21 (by decide)).trans h21
    have h22 := (hk 22 (by decide)).trans h22
    have h23 := (hk 23 (by decide)).trans h23
    have h24 := (hk 24 (by decide)).trans h24
    have h25 := (hk 25 (by decide)).trans h25
    have h26 := (hk 26 (by decide)).trans h26
    have h27 := (hk 27 (by decide)).trans h27
    have h28 := (hk 28 (by decide)).trans h28
    have h29 := (hk 29 (by decide)).trans h29
    have h30 := (hk 30 (by decide)).trans h30
    have h31 := (hk 31 (by decide)).trans h31
    have h32 := (hk 32 (by decide)).trans h32
    have h33 := (hk 33 (by decide)).trans h33
    have h34 := (hk 34 (by decide)).trans h34
    have h35 := (hk 35 (by decide)).trans h35
    have h36 := (hk 36 (by decide)).trans h36
    have h37 := (hk 37 (by decide)).trans h37
    have h38 := (hk 38 (by decide)).trans h38
    have h39 := (hk 39 (by decide)).trans h39
    have h40 := (hk 40 (by decide)).trans h40
    have h41 := (hk 41 (by decide)).trans h41
    have h43 := (hk 43 (by decide)).trans h43
    have h44 := (hk 44 (by decide)).trans h44
    have h45 := (hk 45 (by decide)).trans h45
    have h46 := (hk 46 (by decide)).trans h46
    have h47 := (hk 47 (by decide)).trans h47
    have h48 := (hk 48 (by decide)).trans h48
    have h49 := (hk 49 (by decide)).trans h49
    have h50 := (hk 50 (by decide)).trans h50
    have h51 := (hk 51 (by decide)).trans h51
    refine W.lcmp hx hb dL_law_712 ?_
    refine lv_if_eq (tgt := 1535) hx hb dL_law_713 (by decide) (fun _ => ?_) (fun q => absurd ((lc_eq _ _).mpr he) q)
    exact KK tx_length tx_bytes ro_pupils ro_mood ro_letters ro_rows ro_columns ro_tenths ro_needs ro_toldDares le_seed le_questions le_rightOnes le_wrongOnes le_isKept le_dares le_times ha_cells u.2.1 u.2.2.1 u.2.2.2.1 u.2.2.2.2.1 u.2.2.2.2.2.1 u.2.2.2.2.2.2 s1_seed s1_questions s1_rightOnes s1_wrongOnes s1_isKept s1_dares s1_times s2_seed s2_questions s2_rightOnes s2_wrongOnes s2_isKept s2_dares s2_times ta_size ta_hands ta_ones ta_cells tr_waited tr_size tr_hands m_readMany m_pupils m_mood m_length m_at m_faultAt m_drawn m_questions m_rights m_wrongs m_tapes m_trials m_read m_pupil m_dares m_times m_text m_joint v.2 m_tapeHands m_tapeTaken m_trialHands m_trialWaited m_isKept m_keptDares m_keptTimes m_keptDrawn m_keptLesson hR2 _ _ _ hP hD hS ⟨h0, h1, h2, h3, h4, h5, h6, h7, h8, h9, h10, h11, h12, h13, h14, h15, h16, h17, h18, h19, h20, h21, h22, h23, h24, h25, h26, h27, h28, h29, h30, h31, h32, h33, h34, h35, h36, h37, h38, h39, h40, h41, h42, h43, h44, h45, h46, h47, h48, h49, h50, h51⟩ ls hl
set_option maxHeartbeats 4000000 in
set_option maxRecDepth 100000 in
theorem case_14 {p : Program} {l : Launch} {e : Env} {s : State} {m : MethodId} {below : List Frame} {meth : Method} {c : Code} {D : va_G} {cI cJ cZ : ClassId} {a : Nat → Nat} {b L : Nat} {xs : Nat → Int32} (C0 : lw_At p s m meth c b L xs) (X : Cx yL_law code 4 ret D cI cJ cZ p s m #[Value.ref b] meth c) (i : Nat) (hi : i + 5 < L) (hL : L ≤ 3072) (tx_length : Int32) (tx_bytes : Nat → Int32) (ro_pupils : Int32) (ro_mood : Int32) (ro_letters : Nat → Int32) (ro_rows : Nat → Int32) (ro_columns : Nat → Int32) (ro_tenths : Nat → Int32) (ro_needs : Nat → Int32) (ro_toldDares : Nat → Int32) (le_seed : Int64) (le_questions : Int32) (le_rightOnes : Int32) (le_wrongOnes : Int32) (le_isKept : Int32) (le_dares : Nat → Int32) (le_times : Nat → Int32) (ha_cells : Nat → Int64) (ch_pupils : Int32) (ch_rule : Int32) (ch_ranks : Nat → Int32) (ch_eligible : Nat → Int32) (ch_eligibleAndRight : Nat → Int32) (ch_cells : Nat → Int64) (s1_seed : Int64) (s1_questions : Int32) (s1_rightOnes : Int32) (s1_wrongOnes : Int32) (s1_isKept : Int32) (s1_dares : Nat → Int32) (s1_times : Nat → Int32) (s2_seed : Int64) (s2_questions : Int32) (s2_rightOnes : Int32) (s2_wrongOnes : Int32) (s2_isKept : Int32) (s2_dares : Nat → Int32) (s2_times : Nat → Int32) (ta_size : Int32) (ta_hands : Nat → Int32) (ta_ones : Nat → Int32) (ta_cells : Nat → Int64) (tr_waited : Int32) (tr_size : Int32) (tr_hands : Nat → Int32) (m_readMany : Int32) (m_pupils : Int32) (m_mood : Int32) (m_length : Int32) (m_at : Int32) (m_faultAt : Int32) (m_drawn : Int64) (m_questions : Int32) (m_rights : Int32) (m_wrongs : Int32) (m_tapes : Int32) (m_trials : Int32) (m_read : Nat → Int32) (m_pupil : Nat → Int32) (m_dares : Nat → Int32) (m_times : Nat → Int32) (m_text : Nat → Int32) (m_joint : Nat → Int64) (m_others : Nat → Int64) (m_tapeHands : Nat → Int32) (m_tapeTaken : Nat → Int32) (m_trialHands : Nat → Int32) (m_trialWaited : Nat → Int32) (m_isKept : Nat → Int32) (m_keptDares : Nat → Int32) (m_keptTimes : Nat → Int32) (m_keptDrawn : Nat → Int64) (m_keptLesson : Nat → Int32) (hR : Rel i tx_length tx_bytes ro_pupils ro_mood ro_letters ro_rows ro_columns ro_tenths ro_needs ro_toldDares le_seed le_questions le_rightOnes le_wrongOnes le_dares le_times s1_seed s1_questions s1_rightOnes s1_wrongOnes s1_isKept s1_dares s1_times s2_seed s2_questions s2_rightOnes s2_wrongOnes s2_isKept s2_dares s2_times ta_size ta_hands ta_ones tr_waited tr_size tr_hands m_pupils m_mood m_length m_drawn m_questions m_rights m_wrongs m_tapes m_trials m_pupil m_dares m_times m_text m_tapeHands m_tapeTaken m_trialHands m_trialWaited m_isKept m_keptDares m_keptTimes m_keptDrawn m_keptLesson) (ws0 : va_W) (H : Heap) (locs : List Loc) (hP : va_P D vwCl ws0 H) (hD : va_D (fun q : Nat => s.heap.size ≤ q) ws0) (hS : va_S (fun q : Nat => s.heap.size ≤ q) s.heap H locs) (hw : wAll a cI cJ cZ ws0 tx_length tx_bytes ro_pupils ro_mood ro_letters ro_rows ro_columns ro_tenths ro_needs ro_toldDares le_seed le_questions le_rightOnes le_wrongOnes le_isKept le_dares le_times ha_cells ch_pupils ch_rule ch_ranks ch_eligible ch_eligibleAndRight ch_cells s1_seed s1_questions s1_rightOnes s1_wrongOnes s1_isKept s1_dares s1_times s2_seed s2_questions s2_rightOnes s2_wrongOnes s2_isKept s2_dares s2_times ta_size ta_hands ta_ones ta_cells tr_waited tr_size tr_hands m_readMany m_pupils m_mood m_length m_at m_faultAt m_drawn m_questions m_rights m_wrongs m_tapes m_trials m_read m_pupil m_dares m_times m_text m_joint m_others m_tapeHands m_tapeTaken m_trialHands m_trialWaited m_isKept m_keptDares m_keptTimes m_keptDrawn m_keptLesson) (ls : Array Slot) (hl : lv_has ls 4 [(0, .ref b), (1, .ref (a 0)), (2, .ref (a 35)), (3, .int (nI i))]) (KK : ∀ (tx_length : Int32) (tx_bytes : Nat → Int32) (ro_pupils : Int32) (ro_mood : Int32) (ro_letters : Nat → Int32) (ro_rows : Nat → Int32) (ro_columns : Nat → Int32) (ro_tenths : Nat → Int32) (ro_needs : Nat → Int32) (ro_toldDares : Nat → Int32) (le_seed : Int64) (le_questions : Int32) (le_rightOnes : Int32) (le_wrongOnes : Int32) (le_isKept : Int32) (le_dares : Nat → Int32) (le_times : Nat → Int32) (ha_cells : Nat → Int64) (ch_pupils : Int32) (ch_rule : Int32) (ch_ranks : Nat → Int32) (ch_eligible : Nat → Int32) (ch_eligibleAndRight : Nat → Int32) (ch_cells : Nat → Int64) (s1_seed : Int64) (s1_questions : Int32) (s1_rightOnes : Int32) (s1_wrongOnes : Int32) (s1_isKept : Int32) (s1_dares : Nat → Int32) (s1_times : Nat → Int32) (s2_seed : Int64) (s2_questions : Int32) (s2_rightOnes : Int32) (s2_wrongOnes : Int32) (s2_isKept : Int32) (s2_dares : Nat → Int32) (s2_times : Nat → Int32) (ta_size : Int32) (ta_hands : Nat → Int32) (ta_ones : Nat → Int32) (ta_cells : Nat → Int64) (tr_waited : Int32) (tr_size : Int32) (tr_hands : Nat → Int32) (m_readMany : Int32) (m_pupils : Int32) (m_mood : Int32) (m_length : Int32) (m_at : Int32) (m_faultAt : Int32) (m_drawn : Int64) (m_questions : Int32) (m_rights : Int32) (m_wrongs : Int32) (m_tapes : Int32) (m_trials : Int32) (m_read : Nat → Int32) (m_pupil : Nat → Int32) (m_dares : Nat → Int32) (m_times : Nat → Int32) (m_text : Nat → Int32) (m_joint : Nat → Int64) (m_others : Nat → Int64) (m_tapeHands : Nat → Int32) (m_tapeTaken : Nat → Int32) (m_trialHands : Nat → Int32) (m_trialWaited : Nat → Int32) (m_isKept : Nat → Int32) (m_keptDares : Nat → Int32) (m_keptTimes : Nat → Int32) (m_keptDrawn : Nat → Int64) (m_keptLesson : Nat → Int32), Rel (i + 1) tx_length tx_bytes ro_pupils ro_mood ro_letters ro_rows ro_columns ro_tenths ro_needs ro_toldDares le_seed le_questions le_rightOnes le_wrongOnes le_dares le_times s1_seed s1_questions s1_rightOnes s1_wrongOnes s1_isKept s1_dares s1_times s2_seed s2_questions s2_rightOnes s2_wrongOnes s2_isKept s2_dares s2_times ta_size ta_hands ta_ones tr_waited tr_size tr_hands m_pupils m_mood m_length m_drawn m_questions m_rights m_wrongs m_tapes m_trials m_pupil m_dares m_times m_text m_tapeHands m_tapeTaken m_trialHands m_trialWaited m_isKept m_keptDares m_keptTimes m_keptDrawn m_keptLesson → ∀ (w : va_W) (H : Heap) (locs : List Loc), va_P D vwCl w H → va_D (fun q : Nat => s.heap.size ≤ q) w → va_S (fun q : Nat => s.heap.size ≤ q) s.heap H locs → wAll a cI cJ cZ w tx_length tx_bytes ro_pupils ro_mood ro_letters ro_rows ro_columns ro_tenths ro_needs ro_toldDares le_seed le_questions le_rightOnes le_wrongOnes le_isKept le_dares le_times ha_cells ch_pupils ch_rule ch_ranks ch_eligible ch_eligibleAndRight ch_cells s1_seed s1_questions s1_rightOnes s1_wrongOnes s1_isKept s1_dares s1_times s2_seed s2_questions s2_rightOnes s2_wrongOnes s2_isKept s2_dares s2_times ta_size ta_hands ta_ones ta_cells tr_waited tr_size tr_hands m_readMany m_pupils m_mood m_length m_at m_faultAt m_drawn m_questions m_rights m_wrongs m_tapes m_trials m_read m_pupil m_dares m_times m_text m_joint m_others m_tapeHands m_tapeTaken m_trialHands m_trialWaited m_isKept m_keptDares m_keptTimes m_keptDrawn m_keptLesson → ∀ ls : Array Slot, lv_has ls 4 [(0, .ref b), (1, .ref (a 0)), (2, .ref (a 35)), (3, .int (nI i))] → W p l e room_1 s m #[Value.ref b] below meth c H locs 52 1402 (lw_Z below #[Value.ref b] s) (F0 m 1535 ls [])) : W p l e room_1 s m #[Value.ref b] below meth c H locs 52 1402 (lw_Z below #[Value.ref b] s) (F0 m 718 ls []) := by
  obtain ⟨-, -, -, -, -, -, hX, hbl, -, -⟩ := C0
  obtain ⟨hx, hb, hr, hml, hown, hts, hlk, hK, hN⟩ := id X
  have hown : s.vm.findClass RL = some m.cls := hown
  have hbA : ¬ (fun q : Nat => s.heap.size ≤ q) b := Nat.not_le.mpr hbl
  obtain ⟨h0, h1, h2, h3, h4, h5, h6, h7, h8, h9, h10, h11, h12, h13, h14, h15, h16, h17, h18, h19, h20, h21, h22, h23, h24, h25, h26, h27, h28, h29, h30, h31, h32, h33, h34, h35, h36, h37, h38, h39, h40, h41, h42, h43, h44, h45, h46, h47, h48, h49, h50, h51⟩ := hw
  have i1 : vp_in (nI i + (1 : Int32)) L := by rw [show (1 : Int32) = nI 1 from rfl, nI_add]; exact vp_in_nI (by omega) (by omega)
  have i2 : vp_in (nI i + (2 : Int32)) L := by rw [show (2 : Int32) = nI 2 from rfl, nI_add]; exact vp_in_nI (by omega) (by omega)
  have i3 : vp_in (nI i + (3 : Int32)) L := by rw [show (3 : Int32) = nI 3 from rfl, nI_add]; exact vp_in_nI (by omega) (by omega)
  have i4 : vp_in (nI i + (4 : Int32)) L := by rw [show (4 : Int32) = nI 4 from rfl, nI_add]; exact vp_in_nI (by omega) (by omega)
  have i5 : vp_in (nI i + (5 : Int32)) L := by rw [show (5 : Int32) = nI 5 from rfl, nI_add]; exact vp_in_nI (by omega) (by omega)
  obtain ⟨u, v, hu, hv, he, hR2⟩ := P_mostly i (by omega) tx_length tx_bytes ro_pupils ro_mood ro_letters ro_rows ro_columns ro_tenths ro_needs ro_toldDares le_seed le_questions le_rightOnes le_wrongOnes le_isKept le_dares le_times ha_cells ch_pupils ch_rule ch_ranks ch_eligible ch_eligibleAndRight ch_cells s1_seed s1_questions s1_rightOnes s1_wrongOnes s1_isKept s1_dares s1_times s2_seed s2_questions s2_rightOnes s2_wrongOnes s2_isKept s2_dares s2_times ta_size ta_hands ta_ones ta_cells tr_waited tr_size tr_hands m_readMany m_pupils m_mood m_length m_at m_faultAt m_drawn m_questions m_rights m_wrongs m_tapes m_trials m_read m_pupil m_dares m_times m_text m_joint m_others m_tapeHands m_tapeTaken m_trialHands m_trialWaited m_isKept m_keptDares m_keptTimes m_keptDrawn m_keptLesson (xs (nI i + (1 : Int32)).toNatClampNeg) (xs (nI i + (2 : Int32)).toNatClampNeg)  hR
  refine lv_aload_n hx hb dL_law_718 rfl (lv_at hl 1 rfl) ?_
  refine lv_aload_n hx hb dL_law_719 rfl (lv_at hl 0 rfl) ?_
  refine lv_iload_n hx hb dL_law_720 rfl (lv_at hl 3 rfl) ?_
  refine lv_iconst (v := (1 : Int32)) hx hb dL_law_721 (by decide) ?_
  refine lv_iadd hx hb dL_law_722 ?_
  refine va_sld hx hb hX hbl hbA hS i1 dL_law_723 ?_
  refine lv_aload_n hx hb dL_law_724 rfl (lv_at hl 0 rfl) ?_
  refine lv_iload_n hx hb dL_law_725 rfl (lv_at hl 3 rfl) ?_
  refine lv_iconst (v := (2 : Int32)) hx hb dL_law_726 (by decide) ?_
  refine lv_iadd hx hb dL_law_727 ?_
  refine va_sld hx hb hX hbl hbA hS i2 dL_law_728 ?_
  refine wr_i (runV (As := [.int (xs (nI i + (1 : Int32)).toNatClampNeg), .int (xs (nI i + (2 : Int32)).toNatClampNeg)]) (rest := []) X cq_X8_mostly lk_L_77 (c_X8_mostly l D cI cJ cZ a ws0 (fun q : Nat => s.heap.size ≤ q) ro_pupils ro_mood ro_letters ro_rows ro_columns ro_tenths ro_needs le_seed le_questions le_rightOnes le_wrongOnes le_isKept le_dares le_times ch_pupils ch_rule ch_ranks ch_eligible ch_eligibleAndRight ch_cells (xs (nI i + (1 : Int32)).toNatClampNeg) (xs (nI i + (2 : Int32)).toNatClampNeg) u hu h0 h3 h4 h5 h6 h7 h8 h10 h11 h12 h16 h17 h18 h19 h20 h21 hD) rfl rfl ⟨Nat.le_of_ble_eq_true rfl, Nat.le_of_ble_eq_true rfl⟩ hP h0 rfl rfl hl.1 rfl (Nat.le_of_ble_eq_true rfl) dL_law_729 ⟨Nat.le_of_ble_eq_true rfl, Nat.le_of_ble_eq_true rfl⟩) hS (fun w1 H locs hP hD hk hB hS => ?_)
  obtain ⟨hB0, hB1, hB2, hB3, hB4⟩ := hB
  have h16 : w1[16]? = some (a 16, .inr (0, [.ref (a 17), .ref (a 18), .ref (a 19), .ref (a 20), .int u.2.1, .int u.2.2.1])) := hB0
  have h17 : w1[17]? = some (a 17, .inl (cI, 12, .inl u.2.2.2.1)) := hB1
  have h18 : w1[18]? = some (a 18, .inl (cI, 12, .inl u.2.2.2.2.1)) := hB2
  have h19 : w1[19]? = some (a 19, .inl (cI, 12, .inl u.2.2.2.2.2.1)) := hB3
  have h21 : w1[21]? = some (a 21, .inl (cJ, 169, .inr (.inl u.2.2.2.2.2.2))) := hB4
  have h0 := (hk 0 (by decide)).trans h0
  have h1 := (hk 1 (by decide)).trans h1
  have h2 := (hk 2 (by decide)).trans h2
  have h3 := (hk 3 (by decide)).trans h3
  have h4 := (hk 4 (by decide)).trans h4
  have h5 := (hk 5 (by decide)).trans h5
  have h6 := (hk 6 (by decide)).trans h6
  have h7 := (hk 7 (by decide)).trans h7
  have h8 := (hk 8 (by decide)).trans h8
  have h9 := (hk 9 (by decide)).trans h9
  have h10 := (hk 10 (by decide)).trans h10
  have h11 := (hk 11 (by decide)).trans h11
  have h12 := (hk 12 (by decide)).trans h12
  have h13 := (hk 13 (by decide)).trans h13
  have h14 := (hk 14 (by decide)).trans h14
  have h15 := (hk 15 (by decide)).trans h15
  have h20 := (hk 20 (by decide)).trans h20
  have h22 := (hk 22 (by decide)).trans h22
  have h23 := (hk 23 (by decide)).trans h23
  have h24 := (hk 24 (by decide)).trans h24
  have h25 := (hk 25 (by decide)).trans h25
  have h26 := (hk 26 (by decide)).trans h26
  have h27 := (hk 27 (by decide)).trans h27
  have h28 := (hk 28 (by decide)).trans h28
  have h29 := (hk 29 (by decide)).trans h29
  have h30 := (hk 30 (by decide)).trans h30
  have h31 := (hk 31 (by decide)).trans h31
  have h32 := (hk 32 (by decide)).trans h32
  have h33 := (hk 33 (by decide)).trans h33
  have h34 := (hk 34 (by decide)).trans h34
  have h35 := (hk 35 (by decide)).trans h35
  have h36 := (hk 36 (by decide)).trans h36
  have h37 := (hk 37 (by decide)).trans h37
  have h38 := (hk 38 (by decide)).trans h38
  have h39 := (hk 39 (by decide)).trans h39
  have h40 := (hk 40 (by decide)).trans h40
  have h41 := (hk 41 (by decide)).trans h41
  have h42 := (hk 42 (by decide)).trans h42
  have h43 := (hk 43 (by decide)).trans h43
  have h44 := (hk 44 (by decide)).trans h44
  have h45 := (hk 45 (by decide)).trans h45
  have h46 := (hk 46 (by decide)).trans h46
  have h47 := (hk 47 (by decide)).trans h47
  have h48 := (hk 48 (by decide)).trans h48
  have h49 := (hk 49 (by decide)).trans h49
  have h50 := (hk 50 (by decide)).trans h50
  have h51 := (hk 51 (by decide)).trans h51
  refine lv_aload_n hx hb dL_law_732 rfl (lv_at hl 2 rfl) ?_
  refine lv_aload_n hx hb dL_law_733 rfl (lv_at hl 0 rfl) ?_
  refine lv_iload_n hx hb dL_law_734 rfl (lv_at hl 3 rfl) ?_
  refine lv_iconst (v := (1 : Int32)) hx hb dL_law_735 (by decide) ?_
  refine lv_iadd hx hb dL_law_736 ?_
  refine va_sld hx hb hX hbl hbA hS i1 dL_law_737 ?_
  refine lv_aload_n hx hb dL_law_738 rfl (lv_at hl 0 rfl) ?_
  refine lv_iload_n hx hb dL_law_739 rfl (lv_at hl 3 rfl) ?_
  refine lv_iconst (v := (2 : Int32)) hx hb dL_law_740 (by decide) ?_
  refine lv_iadd hx hb dL_law_741 ?_
  refine va_sld hx hb hX hbl hbA hS i2 dL_law_742 ?_
  refine wr_i (runV (As := [.int (xs (nI i + (1 : Int32)).toNatClampNeg), .int (xs (nI i + (2 : Int32)).toNatClampNeg)]) (rest := [.int u.1]) X cq_X9_mostly lk_L_80 (c_X9_mostly l D cI cJ cZ a w1 (fun q : Nat => s.heap.size ≤ q) m_readMany m_pupils m_mood m_length m_at m_faultAt m_drawn m_questions m_rights m_wrongs m_tapes m_trials m_pupil m_dares m_times m_others (xs (nI i + (1 : Int32)).toNatClampNeg) (xs (nI i + (2 : Int32)).toNatClampNeg) v hv h35 h37 h38 h39 h42 hD) rfl rfl ⟨Nat.le_of_ble_eq_true rfl, Nat.le_of_ble_eq_true rfl⟩ hP h35 rfl rfl hl.1 rfl (Nat.le_of_ble_eq_true rfl) dL_law_743 ⟨Nat.le_of_ble_eq_true rfl, Nat.le_of_ble_eq_true rfl⟩) hS (fun w2 H locs hP hD hk hB hS => ?_)
  have h42 : w2[42]? = some (a 42, .inl (cJ, 13, .inr (.inl v.2))) := hB
  have h0 := (hk 0 (by decide)).trans h0
  have h1 := (hk 1 (by decide)).trans h1
  have h2 := (hk 2 (by decide)).trans h2
  have h3 := (hk 3 (by decide)).trans h3
  have h4 := (hk 4 (by decide)).trans h4
  have h5 := (hk 5 (by decide)).trans h5
  have h6 := (hk 6 (by decide)).trans h6
  have h7 := (hk 7 (by decide)).trans h7
  have h8 := (hk 8 (by decide)).trans h8
  have h9 := (hk 9 (by decide)).trans h9
  have h10 := (hk 10 (by decide)).trans h10
  have h11 := (hk 11 (by decide)).trans h11
  have h12 := (hk 12 (by decide)).trans h12
  have h13 := (hk 13 (by decide)).trans h13
  have h14 := (hk 14 (by decide)).trans h14
  have h15 := (hk 15 (by decide)).trans h15
  have h16 := (hk 16 (by decide)).trans h16
  have h17 := (hk 17 (by decide)).trans h17
  have h18 := (hk 18 (by decide)).trans h18
  have h19 := (hk 19 (by decide)).trans h19
  have h20 := (hk 20 (by decide)).trans h20
  have h21 := (hk 21 (by decide)).trans h21
  have h22 := (hk 22 (by decide)).trans h22
  have h23 := (hk 23 (by decide)).trans h23
  have h24 := (hk 24 (by decide)).trans h24
  have h25 := (hk 25 (by decide)).trans h25
  have h26 := (hk 26 (by decide)).trans h26
  have h27 := (hk 27 (by decide)).trans h27
  have h28 := (hk 28 (by decide)).trans h28
  have h29 := (hk 29 (by decide)).trans h29
  have h30 := (hk 30 (by decide)).trans h30
  have h31 := (hk 31 (by decide)).trans h31
  have h32 := (hk 32 (by decide)).trans h32
  have h33 := (hk 33 (by decide)).trans h33
  have h34 := (hk 34 (by decide)).trans h34
  have h35 := (hk 35 (by decide)).trans h35
  have h36 := (hk 36 (by decide)).trans h36
  have h37 := (hk 37 (by decide)).trans h37
  have h38 := (hk 38 (by decide)).trans h38
  have h39 := (hk 39 (by decide)).trans h39
  have h40 := (hk 40 (by decide)).trans h40
  have h41 := (hk 41 (by decide)).trans h41
  have h43 := (hk 43 (by decide)).trans h43
  have h44 := (hk 44 (by decide)).trans h44
  have h45 := (hk 45 (by decide)).trans h45
  have h46 := (hk 46 (by decide)).trans h46
  have h47 := (hk 47 (by decide)).trans h47
  have h48 := (hk 48 (by decide)).trans h48
  have h49 := (hk 49 (by decide)).trans h49
  have h50 := (hk 50 (by decide)).trans h50
  have h51 := (hk 51 (by decide)).trans h51
  refine lv_icmp_eq (tgt := 1535) hx hb dL_law_746 (by decide) (fun _ => ?_) (fun q => absurd he q)
  exact KK tx_length tx_bytes ro_pupils ro_mood ro_letters ro_rows ro_columns ro_tenths ro_needs ro_toldDares le_seed le_questions le_rightOnes le_wrongOnes le_isKept le_dares le_times ha_cells u.2.1 u.2.2.1 u.2.2.2.1 u.2.2.2.2.1 u.2.2.2.2.2.1 u.2.2.2.2.2.2 s1_seed s1_questions s1_rightOnes s1_wrongOnes s1_isKept s1_dares s1_times s2_seed s2_questions s2_rightOnes s2_wrongOnes s2_isKept s2_dares s2_times ta_size ta_hands ta_ones ta_cells tr_waited tr_size tr_hands m_readMany m_pupils m_mood m_length m_at m_faultAt m_drawn m_questions m_rights m_wrongs m_tapes m_trials m_read m_pupil m_dares m_times m_text m_joint v.2 m_tapeHands m_tapeTaken m_trialHands m_trialWaited m_isKept m_keptDares m_keptTimes m_keptDrawn m_keptLesson hR2 _ _ _ hP hD hS ⟨h0, h1, h2, h3, h4, h5, h6, h7, h8, h9, h10, h11, h12, h13, h14, h15, h16, h17, h18, h19, h20, h21, h22, h23, h24, h25, h26, h27, h28, h29, h30, h31, h32, h33, h34, h35, h36, h37, h38, h39, h40, h41, h42, h43, h44, h45, h46, h47, h48, h49, h50, h51⟩ ls hl
set_option maxHeartbeats 4000000 in
set_option maxRecDepth 100000 in
theorem case_15 {p : Program} {l : Launch} {e : Env} {s : State} {m : MethodId} {below : List Frame} {meth : Method} {c : Code} {D : va_G} {cI cJ cZ : ClassId} {a : Nat → Nat} {b L : Nat} {xs : Nat → Int32} (C0 : lw_At p s m meth c b L xs) (X : Cx yL_law code 4 ret D cI cJ cZ p s m #[Value.ref b] meth c) (i : Nat) (hi : i + 5 < L) (hL : L ≤ 3072) (tx_length : Int32) (tx_bytes : Nat → Int32) (ro_pupils : Int32) (ro_mood : Int32) (ro_letters : Nat → Int32) (ro_rows : Nat → Int32) (ro_columns : Nat → Int32) (ro_tenths : Nat → Int32) (ro_needs : Nat → Int32) (ro_toldDares : Nat → Int32) (le_seed : Int64) (le_questions : Int32) (le_rightOnes : Int32) (le_wrongOnes : Int32) (le_isKept : Int32) (le_dares : Nat → Int32) (le_times : Nat → Int32) (ha_cells : Nat → Int64) (ch_pupils : Int32) (ch_rule : Int32) (ch_ranks : Nat → Int32) (ch_eligible : Nat → Int32) (ch_eligibleAndRight : Nat → Int32) (ch_cells : Nat → Int64) (s1_seed : Int64) (s1_questions : Int32) (s1_rightOnes : Int32) (s1_wrongOnes : Int32) (s1_isKept : Int32) (s1_dares : Nat → Int32) (s1_times : Nat → Int32) (s2_seed : Int64) (s2_questions : Int32) (s2_rightOnes : Int32) (s2_wrongOnes : Int32) (s2_isKept : Int32) (s2_dares : Nat → Int32) (s2_times : Nat → Int32) (ta_size : Int32) (ta_hands : Nat → Int32) (ta_ones : Nat → Int32) (ta_cells : Nat → Int64) (tr_waited : Int32) (tr_size : Int32) (tr_hands : Nat → Int32) (m_readMany : Int32) (m_pupils : Int32) (m_mood : Int32) (m_length : Int32) (m_at : Int32) (m_faultAt : Int32) (m_drawn : Int64) (m_questions : Int32) (m_rights : Int32) (m_wrongs : Int32) (m_tapes : Int32) (m_trials : Int32) (m_read : Nat → Int32) (m_pupil : Nat → Int32) (m_dares : Nat → Int32) (m_times : Nat → Int32) (m_text : Nat → Int32) (m_joint : Nat → Int64) (m_others : Nat → Int64) (m_tapeHands : Nat → Int32) (m_tapeTaken : Nat → Int32) (m_trialHands : Nat → Int32) (m_trialWaited : Nat → Int32) (m_isKept : Nat → Int32) (m_keptDares : Nat → Int32) (m_keptTimes : Nat → Int32) (m_keptDrawn : Nat → Int64) (m_keptLesson : Nat → Int32) (hR : Rel i tx_length tx_bytes ro_pupils ro_mood ro_letters ro_rows ro_columns ro_tenths ro_needs ro_toldDares le_seed le_questions le_rightOnes le_wrongOnes le_dares le_times s1_seed s1_questions s1_rightOnes s1_wrongOnes s1_isKept s1_dares s1_times s2_seed s2_questions s2_rightOnes s2_wrongOnes s2_isKept s2_dares s2_times ta_size ta_hands ta_ones tr_waited tr_size tr_hands m_pupils m_mood m_length m_drawn m_questions m_rights m_wrongs m_tapes m_trials m_pupil m_dares m_times m_text m_tapeHands m_tapeTaken m_trialHands m_trialWaited m_isKept m_keptDares m_keptTimes m_keptDrawn m_keptLesson) (ws0 : va_W) (H : Heap) (locs : List Loc) (hP : va_P D vwCl ws0 H) (hD : va_D (fun q : Nat => s.heap.size ≤ q) ws0) (hS : va_S (fun q : Nat => s.heap.size ≤ q) s.heap H locs) (hw : wAll a cI cJ cZ ws0 tx_length tx_bytes ro_pupils ro_mood ro_letters ro_rows ro_columns ro_tenths ro_needs ro_toldDares le_seed le_questions le_rightOnes le_wrongOnes le_isKept le_dares le_times ha_cells ch_pupils ch_rule ch_ranks ch_eligible ch_eligibleAndRight ch_cells s1_seed s1_questions s1_rightOnes s1_wrongOnes s1_isKept s1_dares s1_times s2_seed s2_questions s2_rightOnes s2_wrongOnes s2_isKept s2_dares s2_times ta_size ta_hands ta_ones ta_cells tr_waited tr_size tr_hands m_readMany m_pupils m_mood m_length m_at m_faultAt m_drawn m_questions m_rights m_wrongs m_tapes m_trials m_read m_pupil m_dares m_times m_text m_joint m_others m_tapeHands m_tapeTaken m_trialHands m_trialWaited m_isKept m_keptDares m_keptTimes m_keptDrawn m_keptLesson) (ls : Array Slot) (hl : lv_has ls 4 [(0, .ref b), (1, .ref (a 0)), (2, .ref (a 35)), (3, .int (nI i))]) (KK : ∀ (tx_length : Int32) (tx_bytes : Nat → Int32) (ro_pupils : Int32) (ro_mood : Int32) (ro_letters : Nat → Int32) (ro_rows : Nat → Int32) (ro_columns : Nat → Int32) (ro_tenths : Nat → Int32) (ro_needs : Nat → Int32) (ro_toldDares : Nat → Int32) (le_seed : Int64) (le_questions : Int32) (le_rightOnes : Int32) (le_wrongOnes : Int32) (le_isKept : Int32) (le_dares : Nat → Int32) (le_times : Nat → Int32) (ha_cells : Nat → Int64) (ch_pupils : Int32) (ch_rule : Int32) (ch_ranks : Nat → Int32) (ch_eligible : Nat → Int32) (ch_eligibleAndRight : Nat → Int32) (ch_cells : Nat → Int64) (s1_seed : Int64) (s1_questions : Int32) (s1_rightOnes : Int32) (s1_wrongOnes : Int32) (s1_isKept : Int32) (s1_dares : Nat → Int32) (s1_times : Nat → Int32) (s2_seed : Int64) (s2_questions : Int32) (s2_rightOnes : Int32) (s2_wrongOnes : Int32) (s2_isKept : Int32) (s2_dares : Nat → Int32) (s2_times : Nat → Int32) (ta_size : Int32) (ta_hands : Nat → Int32) (ta_ones : Nat → Int32) (ta_cells : Nat → Int64) (tr_waited : Int32) (tr_size : Int32) (tr_hands : Nat → Int32) (m_readMany : Int32) (m_pupils : Int32) (m_mood : Int32) (m_length : Int32) (m_at : Int32) (m_faultAt : Int32) (m_drawn : Int64) (m_questions : Int32) (m_rights : Int32) (m_wrongs : Int32) (m_tapes : Int32) (m_trials : Int32) (m_read : Nat → Int32) (m_pupil : Nat → Int32) (m_dares : Nat → Int32) (m_times : Nat → Int32) (m_text : Nat → Int32) (m_joint : Nat → Int64) (m_others : Nat → Int64) (m_tapeHands : Nat → Int32) (m_tapeTaken : Nat → Int32) (m_trialHands : Nat → Int32) (m_trialWaited : Nat → Int32) (m_isKept : Nat → Int32) (m_keptDares : Nat → Int32) (m_keptTimes : Nat → Int32) (m_keptDrawn : Nat → Int64) (m_keptLesson : Nat → Int32), Rel (i + 1) tx_length tx_bytes ro_pupils ro_mood ro_letters ro_rows ro_columns ro_tenths ro_needs ro_toldDares le_seed le_questions le_rightOnes le_wrongOnes le_dares le_times s1_seed s1_questions s1_rightOnes s1_wrongOnes s1_isKept s1_dares s1_times s2_seed s2_questions s2_rightOnes s2_wrongOnes s2_isKept s2_dares s2_times ta_size ta_hands ta_ones tr_waited tr_size tr_hands m_pupils m_mood m_length m_drawn m_questions m_rights m_wrongs m_tapes m_trials m_pupil m_dares m_times m_text m_tapeHands m_tapeTaken m_trialHands m_trialWaited m_isKept m_keptDares m_keptTimes m_keptDrawn m_keptLesson → ∀ (w : va_W) (H : Heap) (locs : List Loc), va_P D vwCl w H → va_D (fun q : Nat => s.heap.size ≤ q) w → va_S (fun q : Nat => s.heap.size ≤ q) s.heap H locs → wAll a cI cJ cZ w tx_length tx_bytes ro_pupils ro_mood ro_letters ro_rows ro_columns ro_tenths ro_needs ro_toldDares le_seed le_questions le_rightOnes le_wrongOnes le_isKept le_dares le_times ha_cells ch_pupils ch_rule ch_ranks ch_eligible ch_eligibleAndRight ch_cells s1_seed s1_questions s1_rightOnes s1_wrongOnes s1_isKept s1_dares s1_times s2_seed s2_questions s2_rightOnes s2_wrongOnes s2_isKept s2_dares s2_times ta_size ta_hands ta_ones ta_cells tr_waited tr_size tr_hands m_readMany m_pupils m_mood m_length m_at m_faultAt m_drawn m_questions m_rights m_wrongs m_tapes m_trials m_read m_pupil m_dares m_times m_text m_joint m_others m_tapeHands m_tapeTaken m_trialHands m_trialWaited m_isKept m_keptDares m_keptTimes m_keptDrawn m_keptLesson → ∀ ls : Array Slot, lv_has ls 4 [(0, .ref b), (1, .ref (a 0)), (2, .ref (a 35)), (3, .int (nI i))] → W p l e room_1 s m #[Value.ref b] below meth c H locs 52 1402 (lw_Z below #[Value.ref b] s) (F0 m 1535 ls [])) : W p l e room_1 s m #[Value.ref b] below meth c H locs 52 1402 (lw_Z below #[Value.ref b] s) (F0 m 751 ls []) := by
  obtain ⟨-, -, -, -, -, -, hX, hbl, -, -⟩ := C0
  obtain ⟨hx, hb, hr, hml, hown, hts, hlk, hK, hN⟩ := id X
  have hown : s.vm.findClass RL = some m.cls := hown
  have hbA : ¬ (fun q : Nat => s.heap.size ≤ q) b := Nat.not_le.mpr hbl
  obtain ⟨h0, h1, h2, h3, h4, h5, h6, h7, h8, h9, h10, h11, h12, h13, h14, h15, h16, h17, h18, h19, h20, h21, h22, h23, h24, h25, h26, h27, h28, h29, h30, h31, h32, h33, h34, h35, h36, h37, h38, h39, h40, h41, h42, h43, h44, h45, h46, h47, h48, h49, h50, h51⟩ := hw
  have i1 : vp_in (nI i + (1 : Int32)) L := by rw [show (1 : Int32) = nI 1 from rfl, nI_add]; exact vp_in_nI (by omega) (by omega)
  have i2 : vp_in (nI i + (2 : Int32)) L := by rw [show (2 : Int32) = nI 2 from rfl, nI_add]; exact vp_in_nI (by omega) (by omega)
  have i3 : vp_in (nI i + (3 : Int32)) L := by rw [show (3 : Int32) = nI 3 from rfl, nI_add]; exact vp_in_nI (by omega) (by omega)
  have i4 : vp_in (nI i + (4 : Int32)) L := by rw [show (4 : Int32) = nI 4 from rfl, nI_add]; exact vp_in_nI (by omega) (by omega)
  have i5 : vp_in (nI i + (5 : Int32)) L := by rw [show (5 : Int32) = nI 5 from rfl, nI_add]; exact vp_in_nI (by omega) (by omega)
  obtain ⟨u, v, hu, hv, he, hR2⟩ := P_await i (by omega) tx_length tx_bytes ro_pupils ro_mood ro_letters ro_rows ro_columns ro_tenths ro_needs ro_toldDares le_seed le_questions le_rightOnes le_wrongOnes le_isKept le_dares le_times ha_cells ch_pupils ch_rule ch_ranks ch_eligible ch_eligibleAndRight ch_cells s1_seed s1_questions s1_rightOnes s1_wrongOnes s1_isKept s1_dares s1_times s2_seed s2_questions s2_rightOnes s2_wrongOnes s2_isKept s2_dares s2_times ta_size ta_hands ta_ones ta_cells tr_waited tr_size tr_hands m_readMany m_pupils m_mood m_length m_at m_faultAt m_drawn m_questions m_rights m_wrongs m_tapes m_trials m_read m_pupil m_dares m_times m_text m_joint m_others m_tapeHands m_tapeTaken m_trialHands m_trialWaited m_isKept m_keptDares m_keptTimes m_keptDrawn m_keptLesson (xs (nI i + (1 : Int32)).toNatClampNeg) (xs (nI i + (2 : Int32)).toNatClampNeg)  hR
  refine lv_aload_n hx hb dL_law_751 rfl (lv_at hl 1 rfl) ?_
  refine lv_aload_n hx hb dL_law_752 rfl (lv_at hl 0 rfl) ?_
  refine lv_iload_n hx hb dL_law_753 rfl (lv_at hl 3 rfl) ?_
  refine lv_iconst (v := (1 : Int32)) hx hb dL_law_754 (by decide) ?_
  refine lv_iadd hx hb dL_law_755 ?_
  refine va_sld hx hb hX hbl hbA hS i1 dL_law_756 ?_
  refine lv_aload_n hx hb dL_law_757 rfl (lv_at hl 0 rfl) ?_
  refine lv_iload_n hx hb dL_law_758 rfl (lv_at hl 3 rfl) ?_
  refine lv_iconst (v := (2 : Int32)) hx hb dL_law_759 (by decide) ?_
  refine lv_iadd hx hb dL_law_760 ?_
  refine va_sld hx hb hX hbl hbA hS i2 dL_law_761 ?_
  refine rd_i (runV (As := [.int (xs (nI i + (1 : Int32)).toNatClampNeg), .int (xs (nI i + (2 : Int32)).toNatClampNeg)]) (rest := []) X cq_X8_await lk_L_81 (c_X8_await l D cI cJ cZ a ws0 ro_pupils ro_mood ro_letters ro_tenths ro_needs le_seed le_questions le_rightOnes le_wrongOnes le_isKept le_dares (xs (nI i + (1 : Int32)).toNatClampNeg) (xs (nI i + (2 : Int32)).toNatClampNeg) u hu h0 h3 h4 h7 h8 h10 h11) rfl rfl ⟨Nat.le_of_ble_eq_true rfl, Nat.le_of_ble_eq_true rfl⟩ hP h0 rfl rfl hl.1 rfl (Nat.le_of_ble_eq_true rfl) dL_law_762 ⟨Nat.le_of_ble_eq_true rfl, Nat.le_of_ble_eq_true rfl⟩) ?_
  refine lv_aload_n hx hb dL_law_765 rfl (lv_at hl 2 rfl) ?_
  refine lv_aload_n hx hb dL_law_766 rfl (lv_at hl 0 rfl) ?_
  refine lv_iload_n hx hb dL_law_767 rfl (lv_at hl 3 rfl) ?_
  refine lv_iconst (v := (1 : Int32)) hx hb dL_law_768 (by decide) ?_
  refine lv_iadd hx hb dL_law_769 ?_
  refine va_sld hx hb hX hbl hbA hS i1 dL_law_770 ?_
  refine lv_aload_n hx hb dL_law_771 rfl (lv_at hl 0 rfl) ?_
  refine lv_iload_n hx hb dL_law_772 rfl (lv_at hl 3 rfl) ?_
  refine lv_iconst (v := (2 : Int32)) hx hb dL_law_773 (by decide) ?_
  refine lv_iadd hx hb dL_law_774 ?_
  refine va_sld hx hb hX hbl hbA hS i2 dL_law_775 ?_
  refine rd_i (runV (As := [.int (xs (nI i + (1 : Int32)).toNatClampNeg), .int (xs (nI i + (2 : Int32)).toNatClampNeg)]) (rest := [.int u]) X cq_X9_await lk_L_84 (c_X9_await l D cI cJ cZ a ws0 m_readMany m_pupils m_mood m_length m_at m_faultAt m_drawn m_questions m_rights m_wrongs m_tapes m_trials m_pupil m_dares (xs (nI i + (1 : Int32)).toNatClampNeg) (xs (nI i + (2 : Int32)).toNatClampNeg) v hv h35 h37 h38) rfl rfl ⟨Nat.le_of_ble_eq_true rfl, Nat.le_of_ble_eq_true rfl⟩ hP h35 rfl rfl hl.1 rfl (Nat.le_of_ble_eq_true rfl) dL_law_776 ⟨Nat.le_of_ble_eq_true rfl, Nat.le_of_ble_eq_true rfl⟩) ?_
  refine lv_icmp_eq (tgt := 1535) hx hb dL_law_779 (by decide) (fun _ => ?_) (fun q => absurd he q)
  exact KK tx_length tx_bytes ro_pupils ro_mood ro_letters ro_rows ro_columns ro_tenths ro_needs ro_toldDares le_seed le_questions le_rightOnes le_wrongOnes le_isKept le_dares le_times ha_cells ch_pupils ch_rule ch_ranks ch_eligible ch_eligibleAndRight ch_cells s1_seed s1_questions s1_rightOnes s1_wrongOnes s1_isKept s1_dares s1_times s2_seed s2_questions s2_rightOnes s2_wrongOnes s2_isKept s2_dares s2_times ta_size ta_hands ta_ones ta_cells tr_waited tr_size tr_hands m_readMany m_pupils m_mood m_length m_at m_faultAt m_drawn m_questions m_rights m_wrongs m_tapes m_trials m_read m_pupil m_dares m_times m_text m_joint m_others m_tapeHands m_tapeTaken m_trialHands m_trialWaited m_isKept m_keptDares m_keptTimes m_keptDrawn m_keptLesson hR2 _ _ _ hP hD hS ⟨h0, h1, h2, h3, h4, h5, h6, h7, h8, h9, h10, h11, h12, h13, h14, h15, h16, h17, h18, h19, h20, h21, h22, h23, h24, h25, h26, h27, h28, h29, h30, h31, h32, h33, h34, h35, h36, h37, h38, h39, h40, h41, h42, h43, h44, h45, h46, h47, h48, h49, h50, h51⟩ ls hl
set_option maxHeartbeats 4000000 in
set_option maxRecDepth 100000 in
theorem case_16 {p : Program} {l : Launch} {e : Env} {s : State} {m : MethodId} {below : List Frame} {meth : Method} {c : Code} {D : va_G} {cI cJ cZ : ClassId} {a : Nat → Nat} {b L : Nat} {xs : Nat → Int32} (C0 : lw_At p s m meth c b L xs) (X : Cx yL_law code 4 ret D cI cJ cZ p s m #[Value.ref b] meth c) (i : Nat) (hi : i + 5 < L) (hL : L ≤ 3072) (tx_length : Int32) (tx_bytes : Nat → Int32) (ro_pupils : Int32) (ro_mood : Int32) (ro_letters : Nat → Int32) (ro_rows : Nat → Int32) (ro_columns : Nat → Int32) (ro_tenths : Nat → Int32) (ro_needs : Nat → Int32) (ro_toldDares : Nat → Int32) (le_seed : Int64) (le_questions : Int32) (le_rightOnes : Int32) (le_wrongOnes : Int32) (le_isKept : Int32) (le_dares : Nat → Int32) (le_times : Nat → Int32) (ha_cells : Nat → Int64) (ch_pupils : Int32) (ch_rule : Int32) (ch_ranks : Nat → Int32) (ch_eligible : Nat → Int32) (ch_eligibleAndRight : Nat → Int32) (ch_cells : Nat → Int64) (s1_seed : Int64) (s1_questions : Int32) (s1_rightOnes : Int32) (s1_wrongOnes : Int32) (s1_isKept : Int32) (s1_dares : Nat → Int32) (s1_times : Nat → Int32) (s2_seed : Int64) (s2_questions : Int32) (s2_rightOnes : Int32) (s2_wrongOnes : Int32) (s2_isKept : Int32) (s2_dares : Nat → Int32) (s2_times : Nat → Int32) (ta_size : Int32) (ta_hands : Nat → Int32) (ta_ones : Nat → Int32) (ta_cells : Nat → Int64) (tr_waited : Int32) (tr_size : Int32) (tr_hands : Nat → Int32) (m_readMany : Int32) (m_pupils : Int32) (m_mood : Int32) (m_length : Int32) (m_at : Int32) (m_faultAt : Int32) (m_drawn : Int64) (m_questions : Int32) (m_rights : Int32) (m_wrongs : Int32) (m_tapes : Int32) (m_trials : Int32) (m_read : Nat → Int32) (m_pupil : Nat → Int32) (m_dares : Nat → Int32) (m_times : Nat → Int32) (m_text : Nat → Int32) (m_joint : Nat → Int64) (m_others : Nat → Int64) (m_tapeHands : Nat → Int32) (m_tapeTaken : Nat → Int32) (m_trialHands : Nat → Int32) (m_trialWaited : Nat → Int32) (m_isKept : Nat → Int32) (m_keptDares : Nat → Int32) (m_keptTimes : Nat → Int32) (m_keptDrawn : Nat → Int64) (m_keptLesson : Nat → Int32) (hR : Rel i tx_length tx_bytes ro_pupils ro_mood ro_letters ro_rows ro_columns ro_tenths ro_needs ro_toldDares le_seed le_questions le_rightOnes le_wrongOnes le_dares le_times s1_seed s1_questions s1_rightOnes s1_wrongOnes s1_isKept s1_dares s1_times s2_seed s2_questions s2_rightOnes s2_wrongOnes s2_isKept s2_dares s2_times ta_size ta_hands ta_ones tr_waited tr_size tr_hands m_pupils m_mood m_length m_drawn m_questions m_rights m_wrongs m_tapes m_trials m_pupil m_dares m_times m_text m_tapeHands m_tapeTaken m_trialHands m_trialWaited m_isKept m_keptDares m_keptTimes m_keptDrawn m_keptLesson) (ws0 : va_W) (H : Heap) (locs : List Loc) (hP : va_P D vwCl ws0 H) (hD : va_D (fun q : Nat => s.heap.size ≤ q) ws0) (hS : va_S (fun q : Nat => s.heap.size ≤ q) s.heap H locs) (hw : wAll a cI cJ cZ ws0 tx_length tx_bytes ro_pupils ro_mood ro_letters ro_rows ro_columns ro_tenths ro_needs ro_toldDares le_seed le_questions le_rightOnes le_wrongOnes le_isKept le_dares le_times ha_cells ch_pupils ch_rule ch_ranks ch_eligible ch_eligibleAndRight ch_cells s1_seed s1_questions s1_rightOnes s1_wrongOnes s1_isKept s1_dares s1_times s2_seed s2_questions s2_rightOnes s2_wrongOnes s2_isKept s2_dares s2_times ta_size ta_hands ta_ones ta_cells tr_waited tr_size tr_hands m_readMany m_pupils m_mood m_length m_at m_faultAt m_drawn m_questions m_rights m_wrongs m_tapes m_trials m_read m_pupil m_dares m_times m_text m_joint m_others m_tapeHands m_tapeTaken m_trialHands m_trialWaited m_isKept m_keptDares m_keptTimes m_keptDrawn m_keptLesson) (ls : Array Slot) (hl : lv_has ls 4 [(0, .ref b), (1, .ref (a 0)), (2, .ref (a 35)), (3, .int (nI i))]) (KK : ∀ (tx_length : Int32) (tx_bytes : Nat → Int32) (ro_pupils : Int32) (ro_mood : Int32) (ro_letters : Nat → Int32) (ro_rows : Nat → Int32) (ro_columns : Nat → Int32) (ro_tenths : Nat → Int32) (ro_needs : Nat → Int32) (ro_toldDares : Nat → Int32) (le_seed : Int64) (le_questions : Int32) (le_rightOnes : Int32) (le_wrongOnes : Int32) (le_isKept : Int32) (le_dares : Nat → Int32) (le_times : Nat → Int32) (ha_cells : Nat → Int64) (ch_pupils : Int32) (ch_rule : Int32) (ch_ranks : Nat → Int32) (ch_eligible : Nat → Int32) (ch_eligibleAndRight : Nat → Int32) (ch_cells : Nat → Int64) (s1_seed : Int64) (s1_questions : Int32) (s1_rightOnes : Int32) (s1_wrongOnes : Int32) (s1_isKept : Int32) (s1_dares : Nat → Int32) (s1_times : Nat → Int32) (s2_seed : Int64) (s2_questions : Int32) (s2_rightOnes : Int32) (s2_wrongOnes : Int32) (s2_isKept : Int32) (s2_dares : Nat → Int32) (s2_times : Nat → Int32) (ta_size : Int32) (ta_hands : Nat → Int32) (ta_ones : Nat → Int32) (ta_cells : Nat → Int64) (tr_waited : Int32) (tr_size : Int32) (tr_hands : Nat → Int32) (m_readMany : Int32) (m_pupils : Int32) (m_mood : Int32) (m_length : Int32) (m_at : Int32) (m_faultAt : Int32) (m_drawn : Int64) (m_questions : Int32) (m_rights : Int32) (m_wrongs : Int32) (m_tapes : Int32) (m_trials : Int32) (m_read : Nat → Int32) (m_pupil : Nat → Int32) (m_dares : Nat → Int32) (m_times : Nat → Int32) (m_text : Nat → Int32) (m_joint : Nat → Int64) (m_others : Nat → Int64) (m_tapeHands : Nat → Int32) (m_tapeTaken : Nat → Int32) (m_trialHands : Nat → Int32) (m_trialWaited : Nat → Int32) (m_isKept : Nat → Int32) (m_keptDares : Nat → Int32) (m_keptTimes : Nat → Int32) (m_keptDrawn : Nat → Int64) (m_keptLesson : Nat → Int32), Rel (i + 1) tx_length tx_bytes ro_pupils ro_mood ro_letters ro_rows ro_columns ro_tenths ro_needs ro_toldDares le_seed le_questions le_rightOnes le_wrongOnes le_dares le_times s1_seed s1_questions s1_rightOnes s1_wrongOnes s1_isKept s1_dares s1_times s2_seed s2_questions s2_rightOnes s2_wrongOnes s2_isKept s2_dares s2_times ta_size ta_hands ta_ones tr_waited tr_size tr_hands m_pupils m_mood m_length m_drawn m_questions m_rights m_wrongs m_tapes m_trials m_pupil m_dares m_times m_text m_tapeHands m_tapeTaken m_trialHands m_trialWaited m_isKept m_keptDares m_keptTimes m_keptDrawn m_keptLesson → ∀ (w : va_W) (H : Heap) (locs : List Loc), va_P D vwCl w H → va_D (fun q : Nat => s.heap.size ≤ q) w → va_S (fun q : Nat => s.heap.size ≤ q) s.heap H locs → wAll a cI cJ cZ w tx_length tx_bytes ro_pupils ro_mood ro_letters ro_rows ro_columns ro_tenths ro_needs ro_toldDares le_seed le_questions le_rightOnes le_wrongOnes le_isKept le_dares le_times ha_cells ch_pupils ch_rule ch_ranks ch_eligible ch_eligibleAndRight ch_cells s1_seed s1_questions s1_rightOnes s1_wrongOnes s1_isKept s1_dares s1_times s2_seed s2_questions s2_rightOnes s2_wrongOnes s2_isKept s2_dares s2_times ta_size ta_hands ta_ones ta_cells tr_waited tr_size tr_hands m_readMany m_pupils m_mood m_length m_at m_faultAt m_drawn m_questions m_rights m_wrongs m_tapes m_trials m_read m_pupil m_dares m_times m_text m_joint m_others m_tapeHands m_tapeTaken m_trialHands m_trialWaited m_isKept m_keptDares m_keptTimes m_keptDrawn m_keptLesson → ∀ ls : Array Slot, lv_has ls 4 [(0, .ref b), (1, .ref (a 0)), (2, .ref (a 35)), (3, .int (nI i))] → W p l e room_1 s m #[Value.ref b] below meth c H locs 52 1402 (lw_Z below #[Value.ref b] s) (F0 m 1535 ls [])) : W p l e room_1 s m #[Value.ref b] below meth c H locs 52 1402 (lw_Z below #[Value.ref b] s) (F0 m 784 ls []) := by
  obtain ⟨-, -, -, -, -, -, hX, hbl, -, -⟩ := C0
  obtain ⟨hx, hb, hr, hml, hown, hts, hlk, hK, hN⟩ := id X
  have hown : s.vm.findClass RL = some m.cls := hown
  have hbA : ¬ (fun q : Nat => s.heap.size ≤ q) b := Nat.not_le.mpr hbl
  obtain ⟨h0, h1, h2, h3, h4, h5, h6, h7, h8, h9, h10, h11, h12, h13, h14, h15, h16, h17, h18, h19, h20, h21, h22, h23, h24, h25, h26, h27, h28, h29, h30, h31, h32, h33, h34, h35, h36, h37, h38, h39, h40, h41, h42, h43, h44, h45, h46, h47, h48, h49, h50, h51⟩ := hw
  have i1 : vp_in (nI i + (1 : Int32)) L := by rw [show (1 : Int32) = nI 1 from rfl, nI_add]; exact vp_in_nI (by omega) (by omega)
  have i2 : vp_in (nI i + (2 : Int32)) L := by rw [show (2 : Int32) = nI 2 from rfl, nI_add]; exact vp_in_nI (by omega) (by omega)
  have i3 : vp_in (nI i + (3 : Int32)) L := by rw [show (3 : Int32) = nI 3 from rfl, nI_add]; exact vp_in_nI (by omega) (by omega)
  have i4 : vp_in (nI i + (4 : Int32)) L := by rw [show (4 : Int32) = nI 4 from rfl, nI_add]; exact vp_in_nI (by omega) (by omega)
  have i5 : vp_in (nI i + (5 : Int32)) L := by rw [show (5 : Int32) = nI 5 from rfl, nI_add]; exact vp_in_nI (by omega) (by omega)
  obtain ⟨u, v, hu, hv, he, hR2⟩ := P_raised i (by omega) tx_length tx_bytes ro_pupils ro_mood ro_letters ro_rows ro_columns ro_tenths ro_needs ro_toldDares le_seed le_questions le_rightOnes le_wrongOnes le_isKept le_dares le_times ha_cells ch_pupils ch_rule ch_ranks ch_eligible ch_eligibleAndRight ch_cells s1_seed s1_questions s1_rightOnes s1_wrongOnes s1_isKept s1_dares s1_times s2_seed s2_questions s2_rightOnes s2_wrongOnes s2_isKept s2_dares s2_times ta_size ta_hands ta_ones ta_cells tr_waited tr_size tr_hands m_readMany m_pupils m_mood m_length m_at m_faultAt m_drawn m_questions m_rights m_wrongs m_tapes m_trials m_read m_pupil m_dares m_times m_text m_joint m_others m_tapeHands m_tapeTaken m_trialHands m_trialWaited m_isKept m_keptDares m_keptTimes m_keptDrawn m_keptLesson (xs (nI i + (1 : Int32)).toNatClampNeg) (xs (nI i + (2 : Int32)).toNatClampNeg)  hR
  refine lv_aload_n hx hb dL_law_784 rfl (lv_at hl 1 rfl) ?_
  refine lv_aload_n hx hb dL_law_785 rfl (lv_at hl 0 rfl) ?_
  refine lv_iload_n hx hb dL_law_786 rfl (lv_at hl 3 rfl) ?_
  refine lv_iconst (v := (1 : Int32)) hx hb dL_law_787 (by decide) ?_
  refine lv_iadd hx hb dL_law_788 ?_
  refine va_sld hx hb hX hbl hbA hS i1 dL_law_789 ?_
  refine lv_aload_n hx hb dL_law_790 rfl (lv_at hl 0 rfl) ?_
  refine lv_iload_n hx hb dL_law_791 rfl (lv_at hl 3 rfl) ?_
  refine lv_iconst (v := (2 : Int32)) hx hb dL_law_792 (by decide) ?_
  refine lv_iadd hx hb dL_law_793 ?_
  refine va_sld hx hb hX hbl hbA hS i2 dL_law_794 ?_
  refine rd_i (runV (As := [.int (xs (nI i + (1 : Int32)).toNatClampNeg), .int (xs (nI i + (2 : Int32)).toNatClampNeg)]) (rest := []) X cq_X8_raised lk_L_85 (c_X8_raised l D cI cJ cZ a ws0 ro_pupils ro_mood ro_letters ro_needs le_seed le_questions le_rightOnes le_wrongOnes le_isKept le_dares (xs (nI i + (1 : Int32)).toNatClampNeg) (xs (nI i + (2 : Int32)).toNatClampNeg) u hu h0 h3 h4 h8 h10 h11) rfl rfl ⟨Nat.le_of_ble_eq_true rfl, Nat.le_of_ble_eq_true rfl⟩ hP h0 rfl rfl hl.1 rfl (Nat.le_of_ble_eq_true rfl) dL_law_795 ⟨Nat.le_of_ble_eq_true rfl, Nat.le_of_ble_eq_true rfl⟩) ?_
  refine lv_aload_n hx hb dL_law_798 rfl (lv_at hl 2 rfl) ?_
  refine lv_aload_n hx hb dL_law_799 rfl (lv_at hl 0 rfl) ?_
  refine lv_iload_n hx hb dL_law_800 rfl (lv_at hl 3 rfl) ?_
  refine lv_iconst (v := (1 : Int32)) hx hb dL_law_801 (by decide) ?_
  refine lv_iadd hx hb dL_law_802 ?_
  refine va_sld hx hb hX hbl hbA hS i1 dL_law_803 ?_
  refine lv_aload_n hx hb dL_law_804 rfl (lv_at hl 0 rfl) ?_
  refine lv_iload_n hx hb dL_law_805 rfl (lv_at hl 3 rfl) ?_
  refine lv_iconst (v := (2 : Int32)) hx hb dL_law_806 (by decide) ?_
  refine lv_iadd hx hb dL_law_807 ?_
  refine va_sld hx hb hX hbl hbA hS i2 dL_law_808 ?_
  refine rd_i (runV (As := [.int (xs (nI i + (1 : Int32)).toNatClampNeg), .int (xs (nI i + (2 : Int32)).toNatClampNeg)]) (rest := [.int u]) X cq_X9_raised lk_L_88 (c_X9_raised l D cI cJ cZ a ws0 m_readMany m_pupils m_mood m_length m_at m_faultAt m_drawn m_questions m_rights m_wrongs m_tapes m_trials m_pupil m_dares (xs (nI i + (1 : Int32)).toNatClampNeg) (xs (nI i + (2 : Int32)).toNatClampNeg) v hv h35 h37 h38) rfl rfl ⟨Nat.le_of_ble_eq_true rfl, Nat.le_of_ble_eq_true rfl⟩ hP h35 rfl rfl hl.1 rfl (Nat.le_of_ble_eq_true rfl) dL_law_809 ⟨Nat.le_of_ble_eq_true rfl, Nat.le_of_ble_eq_true rfl⟩) ?_
  refine lv_icmp_eq (tgt := 1535) hx hb dL_law_812 (by decide) (fun _ => ?_) (fun q => absurd he q)
  exact KK tx_length tx_bytes ro_pupils ro_mood ro_letters ro_rows ro_columns ro_tenths ro_needs ro_toldDares le_seed le_questions le_rightOnes le_wrongOnes le_isKept le_dares le_times ha_cells ch_pupils ch_rule ch_ranks ch_eligible ch_eligibleAndRight ch_cells s1_seed s1_questions s1_rightOnes s1_wrongOnes s1_isKept s1_dares s1_times s2_seed s2_questions s2_rightOnes s2_wrongOnes s2_isKept s2_dares s2_times ta_size ta_hands ta_ones ta_cells tr_waited tr_size tr_hands m_readMany m_pupils m_mood m_length m_at m_faultAt m_drawn m_questions m_rights m_wrongs m_tapes m_trials m_read m_pupil m_dares m_times m_text m_joint m_others m_tapeHands m_tapeTaken m_trialHands m_trialWaited m_isKept m_keptDares m_keptTimes m_keptDrawn m_keptLesson hR2 _ _ _ hP hD hS ⟨h0, h1, h2, h3, h4, h5, h6, h7, h8, h9, h10, h11, h12, h13, h14, h15, h16, h17, h18, h19, h20, h21, h22, h23, h24, h25, h26, h27, h28, h29, h30, h31, h32, h33, h34, h35, h36, h37, h38, h39, h40, h41, h42, h43, h44, h45, h46, h47, h48, h49, h50, h51⟩ ls hl
set_option maxHeartbeats 4000000 in
set_option maxRecDepth 100000 in
theorem case_17 {p : Program} {l : Launch} {e : Env} {s : State} {m : MethodId} {below : List Frame} {meth : Method} {c : Code} {D : va_G} {cI cJ cZ : ClassId} {a : Nat → Nat} {b L : Nat} {xs : Nat → Int32} (C0 : lw_At p s m meth c b L xs) (X : Cx yL_law code 4 ret D cI cJ cZ p s m #[Value.ref b] meth c) (i : Nat) (hi : i + 5 < L) (hL : L ≤ 3072) (tx_length : Int32) (tx_bytes : Nat → Int32) (ro_pupils : Int32) (ro_mood : Int32) (ro_letters : Nat → Int32) (ro_rows : Nat → Int32) (ro_columns : Nat → Int32) (ro_tenths : Nat → Int32) (ro_needs : Nat → Int32) (ro_toldDares : Nat → Int32) (le_seed : Int64) (le_questions : Int32) (le_rightOnes : Int32) (le_wrongOnes : Int32) (le_isKept : Int32) (le_dares : Nat → Int32) (le_times : Nat → Int32) (ha_cells : Nat → Int64) (ch_pupils : Int32) (ch_rule : Int32) (ch_ranks : Nat → Int32) (ch_eligible : Nat → Int32) (ch_eligibleAndRight : Nat → Int32) (ch_cells : Nat → Int64) (s1_seed : Int64) (s1_questions : Int32) (s1_rightOnes : Int32) (s1_wrongOnes : Int32) (s1_isKept : Int32) (s1_dares : Nat → Int32) (s1_times : Nat → Int32) (s2_seed : Int64) (s2_questions : Int32) (s2_rightOnes : Int32) (s2_wrongOnes : Int32) (s2_isKept : Int32) (s2_dares : Nat → Int32) (s2_times : Nat → Int32) (ta_size : Int32) (ta_hands : Nat → Int32) (ta_ones : Nat → Int32) (ta_cells : Nat → Int64) (tr_waited : Int32) (tr_size : Int32) (tr_hands : Nat → Int32) (m_readMany : Int32) (m_pupils : Int32) (m_mood : Int32) (m_length : Int32) (m_at : Int32) (m_faultAt : Int32) (m_drawn : Int64) (m_questions : Int32) (m_rights : Int32) (m_wrongs : Int32) (m_tapes : Int32) (m_trials : Int32) (m_read : Nat → Int32) (m_pupil : Nat → Int32) (m_dares : Nat → Int32) (m_times : Nat → Int32) (m_text : Nat → Int32) (m_joint : Nat → Int64) (m_others : Nat → Int64) (m_tapeHands : Nat → Int32) (m_tapeTaken : Nat → Int32) (m_trialHands : Nat → Int32) (m_trialWaited : Nat → Int32) (m_isKept : Nat → Int32) (m_keptDares : Nat → Int32) (m_keptTimes : Nat → Int32) (m_keptDrawn : Nat → Int64) (m_keptLesson : Nat → Int32) (hR : Rel i tx_length tx_bytes ro_pupils ro_mood ro_letters ro_rows ro_columns ro_tenths ro_needs ro_toldDares le_seed le_questions le_rightOnes le_wrongOnes le_dares le_times s1_seed s1_questions s1_rightOnes s1_wrongOnes s1_isKept s1_dares s1_times s2_seed s2_questions s2_rightOnes s2_wrongOnes s2_isKept s2_dares s2_times ta_size ta_hands ta_ones tr_waited tr_size tr_hands m_pupils m_mood m_length m_drawn m_questions m_rights m_wrongs m_tapes m_trials m_pupil m_dares m_times m_text m_tapeHands m_tapeTaken m_trialHands m_trialWaited m_isKept m_keptDares m_keptTimes m_keptDrawn m_keptLesson) (ws0 : va_W) (H : Heap) (locs : List Loc) (hP : va_P D vwCl ws0 H) (hD : va_D (fun q : Nat => s.heap.size ≤ q) ws0) (hS : va_S (fun q : Nat => s.heap.size ≤ q) s.heap H locs) (hw : wAll a cI cJ cZ ws0 tx_length tx_bytes ro_pupils ro_mood ro_letters ro_rows ro_columns ro_tenths ro_needs ro_toldDares le_seed le_questions le_rightOnes le_wrongOnes le_isKept le_dares le_times ha_cells ch_pupils ch_rule ch_ranks ch_eligible ch_eligibleAndRight ch_cells s1_seed s1_questions s1_rightOnes s1_wrongOnes s1_isKept s1_dares s1_times s2_seed s2_questions s2_rightOnes s2_wrongOnes s2_isKept s2_dares s2_times ta_size ta_hands ta_ones ta_cells tr_waited tr_size tr_hands m_readMany m_pupils m_mood m_length m_at m_faultAt m_drawn m_questions m_rights m_wrongs m_tapes m_trials m_read m_pupil m_dares m_times m_text m_joint m_others m_tapeHands m_tapeTaken m_trialHands m_trialWaited m_isKept m_keptDares m_keptTimes m_keptDrawn m_keptLesson) (ls : Array Slot) (hl : lv_has ls 4 [(0, .ref b), (1, .ref (a 0)), (2, .ref (a 35)), (3, .int (nI i))]) (KK : ∀ (tx_length : Int32) (tx_bytes : Nat → Int32) (ro_pupils : Int32) (ro_mood : Int32) (ro_letters : Nat → Int32) (ro_rows : Nat → Int32) (ro_columns : Nat → Int32) (ro_tenths : Nat → Int32) (ro_needs : Nat → Int32) (ro_toldDares : Nat → Int32) (le_seed : Int64) (le_questions : Int32) (le_rightOnes : Int32) (le_wrongOnes : Int32) (le_isKept : Int32) (le_dares : Nat → Int32) (le_times : Nat → Int32) (ha_cells : Nat → Int64) (ch_pupils : Int32) (ch_rule : Int32) (ch_ranks : Nat → Int32) (ch_eligible : Nat → Int32) (ch_eligibleAndRight : Nat → Int32) (ch_cells : Nat → Int64) (s1_seed : Int64) (s1_questions : Int32) (s1_rightOnes : Int32) (s1_wrongOnes : Int32) (s1_isKept : Int32) (s1_dares : Nat → Int32) (s1_times : Nat → Int32) (s2_seed : Int64) (s2_questions : Int32) (s2_rightOnes : Int32) (s2_wrongOnes : Int32) (s2_isKept : Int32) (s2_dares : Nat → Int32) (s2_times : Nat → Int32) (ta_size : Int32) (ta_hands : Nat → Int32) (ta_ones : Nat → Int32) (ta_cells : Nat → Int64) (tr_waited : Int32) (tr_size : Int32) (tr_hands : Nat → Int32) (m_readMany : Int32) (m_pupils : Int32) (m_mood : Int32) (m_length : Int32) (m_at : Int32) (m_faultAt : Int32) (m_drawn : Int64) (m_questions : Int32) (m_rights : Int32) (m_wrongs : Int32) (m_tapes : Int32) (m_trials : Int32) (m_read : Nat → Int32) (m_pupil : Nat → Int32) (m_dares : Nat → Int32) (m_times : Nat → Int32) (m_text : Nat → Int32) (m_joint : Nat → Int64) (m_others : Nat → Int64) (m_tapeHands : Nat → Int32) (m_tapeTaken : Nat → Int32) (m_trialHands : Nat → Int32) (m_trialWaited : Nat → Int32) (m_isKept : Nat → Int32) (m_keptDares : Nat → Int32) (m_keptTimes : Nat → Int32) (m_keptDrawn : Nat → Int64) (m_keptLesson : Nat → Int32), Rel (i + 1) tx_length tx_bytes ro_pupils ro_mood ro_letters ro_rows ro_columns ro_tenths ro_needs ro_toldDares le_seed le_questions le_rightOnes le_wrongOnes le_dares le_times s1_seed s1_questions s1_rightOnes s1_wrongOnes s1_isKept s1_dares s1_times s2_seed s2_questions s2_rightOnes s2_wrongOnes s2_isKept s2_dares s2_times ta_size ta_hands ta_ones tr_waited tr_size tr_hands m_pupils m_mood m_length m_drawn m_questions m_rights m_wrongs m_tapes m_trials m_pupil m_dares m_times m_text m_tapeHands m_tapeTaken m_trialHands m_trialWaited m_isKept m_keptDares m_keptTimes m_keptDrawn m_keptLesson → ∀ (w : va_W) (H : Heap) (locs : List Loc), va_P D vwCl w H → va_D (fun q : Nat => s.heap.size ≤ q) w → va_S (fun q : Nat => s.heap.size ≤ q) s.heap H locs → wAll a cI cJ cZ w tx_length tx_bytes ro_pupils ro_mood ro_letters ro_rows ro_columns ro_tenths ro_needs ro_toldDares le_seed le_questions le_rightOnes le_wrongOnes le_isKept le_dares le_times ha_cells ch_pupils ch_rule ch_ranks ch_eligible ch_eligibleAndRight ch_cells s1_seed s1_questions s1_rightOnes s1_wrongOnes s1_isKept s1_dares s1_times s2_seed s2_questions s2_rightOnes s2_wrongOnes s2_isKept s2_dares s2_times ta_size ta_hands ta_ones ta_cells tr_waited tr_size tr_hands m_readMany m_pupils m_mood m_length m_at m_faultAt m_drawn m_questions m_rights m_wrongs m_tapes m_trials m_read m_pupil m_dares m_times m_text m_joint m_others m_tapeHands m_tapeTaken m_trialHands m_trialWaited m_isKept m_keptDares m_keptTimes m_keptDrawn m_keptLesson → ∀ ls : Array Slot, lv_has ls 4 [(0, .ref b), (1, .ref (a 0)), (2, .ref (a 35)), (3, .int (nI i))] → W p l e room_1 s m #[Value.ref b] below meth c H locs 52 1402 (lw_Z below #[Value.ref b] s) (F0 m 1535 ls [])) : W p l e room_1 s m #[Value.ref b] below meth c H locs 52 1402 (lw_Z below #[Value.ref b] s) (F0 m 817 ls []) := by
  obtain ⟨-, -, -, -, -, -, hX, hbl, -, -⟩ := C0
  obtain ⟨hx, hb, hr, hml, hown, hts, hlk, hK, hN⟩ := id X
  have hown : s.vm.findClass RL = some m.cls := hown
  have hbA : ¬ (fun q : Nat => s.heap.size ≤ q) b := Nat.not_le.mpr hbl
  obtain ⟨h0, h1, h2, h3, h4, h5, h6, h7, h8, h9, h10, h11, h12, h13, h14, h15, h16, h17, h18, h19, h20, h21, h22, h23, h24, h25, h26, h27, h28, h29, h30, h31, h32, h33, h34, h35, h36, h37, h38, h39, h40, h41, h42, h43, h44, h45, h46, h47, h48, h49, h50, h51⟩ := hw
  have i1 : vp_in (nI i + (1 : Int32)) L := by rw [show (1 : Int32) = nI 1 from rfl, nI_add]; exact vp_in_nI (by omega) (by omega)
  have i2 : vp_in (nI i + (2 : Int32)) L := by rw [show (2 : Int32) = nI 2 from rfl, nI_add]; exact vp_in_nI (by omega) (by omega)
  have i3 : vp_in (nI i + (3 : Int32)) L := by rw [show (3 : Int32) = nI 3 from rfl, nI_add]; exact vp_in_nI (by omega) (by omega)
  have i4 : vp_in (nI i + (4 : Int32)) L := by rw [show (4 : Int32) = nI 4 from rfl, nI_add]; exact vp_in_nI (by omega) (by omega)
  have i5 : vp_in (nI i + (5 : Int32)) L := by rw [show (5 : Int32) = nI 5 from rfl, nI_add]; exact vp_in_nI (by omega) (by omega)
  obtain ⟨u, v, hu, hv, he, hR2⟩ := P_silent i (by omega) tx_length tx_bytes ro_pupils ro_mood ro_letters ro_rows ro_columns ro_tenths ro_needs ro_toldDares le_seed le_questions le_rightOnes le_wrongOnes le_isKept le_dares le_times ha_cells ch_pupils ch_rule ch_ranks ch_eligible ch_eligibleAndRight ch_cells s1_seed s1_questions s1_rightOnes s1_wrongOnes s1_isKept s1_dares s1_times s2_seed s2_questions s2_rightOnes s2_wrongOnes s2_isKept s2_dares s2_times ta_size ta_hands ta_ones ta_cells tr_waited tr_size tr_hands m_readMany m_pupils m_mood m_length m_at m_faultAt m_drawn m_questions m_rights m_wrongs m_tapes m_trials m_read m_pupil m_dares m_times m_text m_joint m_others m_tapeHands m_tapeTaken m_trialHands m_trialWaited m_isKept m_keptDares m_keptTimes m_keptDrawn m_keptLesson (xs (nI i + (1 : Int32)).toNatClampNeg) (xs (nI i + (2 : Int32)).toNatClampNeg)  hR
  refine lv_aload_n hx hb dL_law_817 rfl (lv_at hl 1 rfl) ?_
  refine lv_aload_n hx hb dL_law_818 rfl (lv_at hl 0 rfl) ?_
  refine lv_iload_n hx hb dL_law_819 rfl (lv_at hl 3 rfl) ?_
  refine lv_iconst (v := (1 : Int32)) hx hb dL_law_820 (by decide) ?_
  refine lv_iadd hx hb dL_law_821 ?_
  refine va_sld hx hb hX hbl hbA hS i1 dL_law_822 ?_
  refine lv_aload_n hx hb dL_law_823 rfl (lv_at hl 0 rfl) ?_
  refine lv_iload_n hx hb dL_law_824 rfl (lv_at hl 3 rfl) ?_
  refine lv_iconst (v := (2 : Int32)) hx hb dL_law_825 (by decide) ?_
  refine lv_iadd hx hb dL_law_826 ?_
  refine va_sld hx hb hX hbl hbA hS i2 dL_law_827 ?_
  refine rd_i (runV (As := [.int (xs (nI i + (1 : Int32)).toNatClampNeg), .int (xs (nI i + (2 : Int32)).toNatClampNeg)]) (rest := []) X cq_X8_silent lk_L_89 (c_X8_silent l D cI cJ cZ a ws0 ro_pupils ro_mood ro_letters ro_needs le_seed le_questions le_rightOnes le_wrongOnes le_isKept le_dares (xs (nI i + (1 : Int32)).toNatClampNeg) (xs (nI i + (2 : Int32)).toNatClampNeg) u hu h0 h3 h4 h8 h10 h11) rfl rfl ⟨Nat.le_of_ble_eq_true rfl, Nat.le_of_ble_eq_true rfl⟩ hP h0 rfl rfl hl.1 rfl (Nat.le_of_ble_eq_true rfl) dL_law_828 ⟨Nat.le_of_ble_eq_true rfl, Nat.le_of_ble_eq_true rfl⟩) ?_
  refine lv_aload_n hx hb dL_law_831 rfl (lv_at hl 2 rfl) ?_
  refine lv_aload_n hx hb dL_law_832 rfl (lv_at hl 0 rfl) ?_
  refine lv_iload_n hx hb dL_law_833 rfl (lv_at hl 3 rfl) ?_
  refine lv_iconst (v := (1 : Int32)) hx hb dL_law_834 (by decide) ?_
  refine lv_iadd hx hb dL_law_835 ?_
  refine va_sld hx hb hX hbl hbA hS i1 dL_law_836 ?_
  refine lv_aload_n hx hb dL_law_837 rfl (lv_at hl 0 rfl) ?_
  refine lv_iload_n hx hb dL_law_838 rfl (lv_at hl 3 rfl) ?_
  refine lv_iconst (v := (2 : Int32)) hx hb dL_law_839 (by decide) ?_
  refine lv_iadd hx hb dL_law_840 ?_
  refine va_sld hx hb hX hbl hbA hS i2 dL_law_841 ?_
  refine rd_i (runV (As := [.int (xs (nI i + (1 : Int32)).toNatClampNeg), .int (xs (nI i + (2 : Int32)).toNatClampNeg)]) (rest := [.int u]) X cq_X9_silent lk_L_92 (c_X9_silent l D cI cJ cZ a ws0 m_readMany m_pupils m_mood m_length m_at m_faultAt m_drawn m_questions m_rights m_wrongs m_tapes m_trials m_pupil m_dares (xs (nI i + (1 : Int32)).toNatClampNeg) (xs (nI i + (2 : Int32)).toNatClampNeg) v hv h35 h37 h38) rfl rfl ⟨Nat.le_of_ble_eq_true rfl, Nat.le_of_ble_eq_true rfl⟩ hP h35 rfl rfl hl.1 rfl (Nat.le_of_ble_eq_true rfl) dL_law_842 ⟨Nat.le_of_ble_eq_true rfl, Nat.le_of_ble_eq_true rfl⟩) ?_
  refine lv_icmp_eq (tgt := 1535) hx hb dL_law_845 (by decide) (fun _ => ?_) (fun q => absurd he q)
  exact KK tx_length tx_bytes ro_pupils ro_mood ro_letters ro_rows ro_columns ro_tenths ro_needs ro_toldDares le_seed le_questions le_rightOnes le_wrongOnes le_isKept le_dares le_times ha_cells ch_pupils ch_rule ch_ranks ch_eligible ch_eligibleAndRight ch_cells s1_seed s1_questions s1_rightOnes s1_wrongOnes s1_isKept s1_dares s1_times s2_seed s2_questions s2_rightOnes s2_wrongOnes s2_isKept s2_dares s2_times ta_size ta_hands ta_ones ta_cells tr_waited tr_size tr_hands m_readMany m_pupils m_mood m_length m_at m_faultAt m_drawn m_questions m_rights m_wrongs m_tapes m_trials m_read m_pupil m_dares m_times m_text m_joint m_others m_tapeHands m_tapeTaken m_trialHands m_trialWaited m_isKept m_keptDares m_keptTimes m_keptDrawn m_keptLesson hR2 _ _ _ hP hD hS ⟨h0, h1, h2, h3, h4, h5, h6, h7, h8, h9, h10, h11, h12, h13, h14, h15, h16, h17, h18, h19, h20, h21, h22, h23, h24, h25, h26, h27, h28, h29, h30, h31, h32, h33, h34, h35, h36, h37, h38, h39, h40, h41, h42, h43, h44, h45, h46, h47, h48, h49, h50, h51⟩ ls hl
set_option maxHeartbeats 4000000 in
set_option maxRecDepth 100000 in
theorem case_18 {p : Program} {l : Launch} {e : Env} {s : State} {m : MethodId} {below : List Frame} {meth : Method} {c : Code} {D : va_G} {cI cJ cZ : ClassId} {a : Nat → Nat} {b L : Nat} {xs : Nat → Int32} (C0 : lw_At p s m meth c b L xs) (X : Cx yL_law code 4 ret D cI cJ cZ p s m #[Value.ref b] meth c) (i : Nat) (hi : i + 5 < L) (hL : L ≤ 3072) (tx_length : Int32) (tx_bytes : Nat → Int32) (ro_pupils : Int32) (ro_mood : Int32) (ro_letters : Nat → Int32) (ro_rows : Nat → Int32) (ro_columns : Nat → Int32) (ro_tenths : Nat → Int32) (ro_needs : Nat → Int32) (ro_toldDares : Nat → Int32) (le_seed : Int64) (le_questions : Int32) (le_rightOnes : Int32) (le_wrongOnes : Int32) (le_isKept : Int32) (le_dares : Nat → Int32) (le_times : Nat → Int32) (ha_cells : Nat → Int64) (ch_pupils : Int32) (ch_rule : Int32) (ch_ranks : Nat → Int32) (ch_eligible : Nat → Int32) (ch_eligibleAndRight : Nat → Int32) (ch_cells : Nat → Int64) (s1_seed : Int64) (s1_questions : Int32) (s1_rightOnes : Int32) (s1_wrongOnes : Int32) (s1_isKept : Int32) (s1_dares : Nat → Int32) (s1_times : Nat → Int32) (s2_seed : Int64) (s2_questions : Int32) (s2_rightOnes : Int32) (s2_wrongOnes : Int32) (s2_isKept : Int32) (s2_dares : Nat → Int32) (s2_times : Nat → Int32) (ta_size : Int32) (ta_hands : Nat → Int32) (ta_ones : Nat → Int32) (ta_cells : Nat → Int64) (tr_waited : Int32) (tr_size : Int32) (tr_hands : Nat → Int32) (m_readMany : Int32) (m_pupils : Int32) (m_mood : Int32) (m_length : Int32) (m_at : Int32) (m_faultAt : Int32) (m_drawn : Int64) (m_questions : Int32) (m_rights : Int32) (m_wrongs : Int32) (m_tapes : Int32) (m_trials : Int32) (m_read : Nat → Int32) (m_pupil : Nat → Int32) (m_dares : Nat → Int32) (m_times : Nat → Int32) (m_text : Nat → Int32) (m_joint : Nat → Int64) (m_others : Nat → Int64) (m_tapeHands : Nat → Int32) (m_tapeTaken : Nat → Int32) (m_trialHands : Nat → Int32) (m_trialWaited : Nat → Int32) (m_isKept : Nat → Int32) (m_keptDares : Nat → Int32) (m_keptTimes : Nat → Int32) (m_keptDrawn : Nat → Int64) (m_keptLesson : Nat → Int32) (hR : Rel i tx_length tx_bytes ro_pupils ro_mood ro_letters ro_rows ro_columns ro_tenths ro_needs ro_toldDares le_seed le_questions le_rightOnes le_wrongOnes le_dares le_times s1_seed s1_questions s1_rightOnes s1_wrongOnes s1_isKept s1_dares s1_times s2_seed s2_questions s2_rightOnes s2_wrongOnes s2_isKept s2_dares s2_times ta_size ta_hands ta_ones tr_waited tr_size tr_hands m_pupils m_mood m_length m_drawn m_questions m_rights m_wrongs m_tapes m_trials m_pupil m_dares m_times m_text m_tapeHands m_tapeTaken m_trialHands m_trialWaited m_isKept m_keptDares m_keptTimes m_keptDrawn m_keptLesson) (ws0 : va_W) (H : Heap) (locs : List Loc) (hP : va_P D vwCl ws0 H) (hD : va_D (fun q : Nat => s.heap.size ≤ q) ws0) (hS : va_S (fun q : Nat => s.heap.size ≤ q) s.heap H locs) (hw : wAll a cI cJ cZ ws0 tx_length tx_bytes ro_pupils ro_mood ro_letters ro_rows ro_columns ro_tenths ro_needs ro_toldDares le_seed le_questions le_rightOnes le_wrongOnes le_isKept le_dares le_times ha_cells ch_pupils ch_rule ch_ranks ch_eligible ch_eligibleAndRight ch_cells s1_seed s1_questions s1_rightOnes s1_wrongOnes s1_isKept s1_dares s1_times s2_seed s2_questions s2_rightOnes s2_wrongOnes s2_isKept s2_dares s2_times ta_size ta_hands ta_ones ta_cells tr_waited tr_size tr_hands m_readMany m_pupils m_mood m_length m_at m_faultAt m_drawn m_questions m_rights m_wrongs m_tapes m_trials m_read m_pupil m_dares m_times m_text m_joint m_others m_tapeHands m_tapeTaken m_trialHands m_trialWaited m_isKept m_keptDares m_keptTimes m_keptDrawn m_keptLesson) (ls : Array Slot) (hl : lv_has ls 4 [(0, .ref b), (1, .ref (a 0)), (2, .ref (a 35)), (3, .int (nI i))]) (KK : ∀ (tx_length : Int32) (tx_bytes : Nat → Int32) (ro_pupils : Int32) (ro_mood : Int32) (ro_letters : Nat → Int32) (ro_rows : Nat → Int32) (ro_columns : Nat → Int32) (ro_tenths : Nat → Int32) (ro_needs : Nat → Int32) (ro_toldDares : Nat → Int32) (le_seed : Int64) (le_questions : Int32) (le_rightOnes : Int32) (le_wrongOnes : Int32) (le_isKept : Int32) (le_dares : Nat → Int32) (le_times : Nat → Int32) (ha_cells : Nat → Int64) (ch_pupils : Int32) (ch_rule : Int32) (ch_ranks : Nat → Int32) (ch_eligible : Nat → Int32) (ch_eligibleAndRight : Nat → Int32) (ch_cells : Nat → Int64) (s1_seed : Int64) (s1_questions : Int32) (s1_rightOnes : Int32) (s1_wrongOnes : Int32) (s1_isKept : Int32) (s1_dares : Nat → Int32) (s1_times : Nat → Int32) (s2_seed : Int64) (s2_questions : Int32) (s2_rightOnes : Int32) (s2_wrongOnes : Int32) (s2_isKept : Int32) (s2_dares : Nat → Int32) (s2_times : Nat → Int32) (ta_size : Int32) (ta_hands : Nat → Int32) (ta_ones : Nat → Int32) (ta_cells : Nat → Int64) (tr_waited : Int32) (tr_size : Int32) (tr_hands : Nat → Int32) (m_readMany : Int32) (m_pupils : Int32) (m_mood : Int32) (m_length : Int32) (m_at : Int32) (m_faultAt : Int32) (m_drawn : Int64) (m_questions : Int32) (m_rights : Int32) (m_wrongs : Int32) (m_tapes : Int32) (m_trials : Int32) (m_read : Nat → Int32) (m_pupil : Nat → Int32) (m_dares : Nat → Int32) (m_times : Nat → Int32) (m_text : Nat → Int32) (m_joint : Nat → Int64) (m_others : Nat → Int64) (m_tapeHands : Nat → Int32) (m_tapeTaken : Nat → Int32) (m_trialHands : Nat → Int32) (m_trialWaited : Nat → Int32) (m_isKept : Nat → Int32) (m_keptDares : Nat → Int32) (m_keptTimes : Nat → Int32) (m_keptDrawn : Nat → Int64) (m_keptLesson : Nat → Int32), Rel (i + 1) tx_length tx_bytes ro_pupils ro_mood ro_letters ro_rows ro_columns ro_tenths ro_needs ro_toldDares le_seed le_questions le_rightOnes le_wrongOnes le_dares le_times s1_seed s1_questions s1_rightOnes s1_wrongOnes s1_isKept s1_dares s1_times s2_seed s2_questions s2_rightOnes s2_wrongOnes s2_isKept s2_dares s2_times ta_size ta_hands ta_ones tr_waited tr_size tr_hands m_pupils m_mood m_length m_drawn m_questions m_rights m_wrongs m_tapes m_trials m_pupil m_dares m_times m_text m_tapeHands m_tapeTaken m_trialHands m_trialWaited m_isKept m_keptDares m_keptTimes m_keptDrawn m_keptLesson → ∀ (w : va_W) (H : Heap) (locs : List Loc), va_P D vwCl w H → va_D (fun q : Nat => s.heap.size ≤ q) w → va_S (fun q : Nat => s.heap.size ≤ q) s.heap H locs → wAll a cI cJ cZ w tx_length tx_bytes ro_pupils ro_mood ro_letters ro_rows ro_columns ro_tenths ro_needs ro_toldDares le_seed le_questions le_rightOnes le_wrongOnes le_isKept le_dares le_times ha_cells ch_pupils ch_rule ch_ranks ch_eligible ch_eligibleAndRight ch_cells s1_seed s1_questions s1_rightOnes s1_wrongOnes s1_isKept s1_dares s1_times s2_seed s2_questions s2_rightOnes s2_wrongOnes s2_isKept s2_dares s2_times ta_size ta_hands ta_ones ta_cells tr_waited tr_size tr_hands m_readMany m_pupils m_mood m_length m_at m_faultAt m_drawn m_questions m_rights m_wrongs m_tapes m_trials m_read m_pupil m_dares m_times m_text m_joint m_others m_tapeHands m_tapeTaken m_trialHands m_trialWaited m_isKept m_keptDares m_keptTimes m_keptDrawn m_keptLesson → ∀ ls : Array Slot, lv_has ls 4 [(0, .ref b), (1, .ref (a 0)), (2, .ref (a 35)), (3, .int (nI i))] → W p l e room_1 s m #[Value.ref b] below meth c H locs 52 1402 (lw_Z below #[Value.ref b] s) (F0 m 1535 ls [])) : W p l e room_1 s m #[Value.ref b] below meth c H locs 52 1402 (lw_Z below #[Value.ref b] s) (F0 m 850 ls []) := by
  obtain ⟨-, -, -, -, -, -, hX, hbl, -, -⟩ := C0
  obtain ⟨hx, hb, hr, hml, hown, hts, hlk, hK, hN⟩ := id X
  have hown : s.vm.findClass RL = some m.cls := hown
  have hbA : ¬ (fun q : Nat => s.heap.size ≤ q) b := Nat.not_le.mpr hbl
  obtain ⟨h0, h1, h2, h3, h4, h5, h6, h7, h8, h9, h10, h11, h12, h13, h14, h15, h16, h17, h18, h19, h20, h21, h22, h23, h24, h25, h26, h27, h28, h29, h30, h31, h32, h33, h34, h35, h36, h37, h38, h39, h40, h41, h42, h43, h44, h45, h46, h47, h48, h49, h50, h51⟩ := hw
  have i1 : vp_in (nI i + (1 : Int32)) L := by rw [show (1 : Int32) = nI 1 from rfl, nI_add]; exact vp_in_nI (by omega) (by omega)
  have i2 : vp_in (nI i + (2 : Int32)) L := by rw [show (2 : Int32) = nI 2 from rfl, nI_add]; exact vp_in_nI (by omega) (by omega)
  have i3 : vp_in (nI i + (3 : Int32)) L := by rw [show (3 : Int32) = nI 3 from rfl, nI_add]; exact vp_in_nI (by omega) (by omega)
  have i4 : vp_in (nI i + (4 : Int32)) L := by rw [show (4 : Int32) = nI 4 from rfl, nI_add]; exact vp_in_nI (by omega) (by omega)
  have i5 : vp_in (nI i + (5 : Int32)) L := by rw [show (5 : Int32) = nI 5 from rfl, nI_add]; exact vp_in_nI (by omega) (by omega)
  obtain ⟨u, v, hu, hv, he, hR2⟩ := P_seed i (by omega) tx_length tx_bytes ro_pupils ro_mood ro_letters ro_rows ro_columns ro_tenths ro_needs ro_toldDares le_seed le_questions le_rightOnes le_wrongOnes le_isKept le_dares le_times ha_cells ch_pupils ch_rule ch_ranks ch_eligible ch_eligibleAndRight ch_cells s1_seed s1_questions s1_rightOnes s1_wrongOnes s1_isKept s1_dares s1_times s2_seed s2_questions s2_rightOnes s2_wrongOnes s2_isKept s2_dares s2_times ta_size ta_hands ta_ones ta_cells tr_waited tr_size tr_hands m_readMany m_pupils m_mood m_length m_at m_faultAt m_drawn m_questions m_rights m_wrongs m_tapes m_trials m_read m_pupil m_dares m_times m_text m_joint m_others m_tapeHands m_tapeTaken m_trialHands m_trialWaited m_isKept m_keptDares m_keptTimes m_keptDrawn m_keptLesson ((((xs (nI i + (1 : Int32)).toNatClampNeg).toInt64) <<< ((32 : Int32).toInt64 &&& 63)) ||| (((xs (nI i + (2 : Int32)).toNatClampNeg).toInt64) &&& (4294967295 : Int64)))  hR
  refine lv_aload_n hx hb dL_law_850 rfl (lv_at hl 1 rfl) ?_
  refine lv_aload_n hx hb dL_law_851 rfl (lv_at hl 0 rfl) ?_
  refine lv_iload_n hx hb dL_law_852 rfl (lv_at hl 3 rfl) ?_
  refine lv_iconst (v := (1 : Int32)) hx hb dL_law_853 (by decide) ?_
  refine lv_iadd hx hb dL_law_854 ?_
  refine va_sld hx hb hX hbl hbA hS i1 dL_law_855 ?_
  refine lv_i2l hx hb dL_law_856 rfl ?_
  refine lv_bipush (v := (32 : Int32)) hx hb dL_law_857 (by decide) ?_
  refine lv_lshl hx hb dL_law_859 rfl ?_
  refine lv_aload_n hx hb dL_law_860 rfl (lv_at hl 0 rfl) ?_
  refine lv_iload_n hx hb dL_law_861 rfl (lv_at hl 3 rfl) ?_
  refine lv_iconst (v := (2 : Int32)) hx hb dL_law_862 (by decide) ?_
  refine lv_iadd hx hb dL_law_863 ?_
  refine va_sld hx hb hX hbl hbA hS i2 dL_law_864 ?_
  refine lv_i2l hx hb dL_law_865 rfl ?_
  refine lv_ldc2 (v := (4294967295 : Int64)) hx hb hown (hts _ kl_L_13) dL_law_866 ?_
  refine lv_land hx hb dL_law_869 ?_
  refine lv_lor hx hb dL_law_870 ?_
  refine wr_l (runV (As := [.long ((((xs (nI i + (1 : Int32)).toNatClampNeg).toInt64) <<< ((32 : Int32).toInt64 &&& 63)) ||| (((xs (nI i + (2 : Int32)).toNatClampNeg).toInt64) &&& (4294967295 : Int64)))]) (rest := []) X cq_X8_seed lk_L_93 (c_X8_seed l D cI cJ cZ a ws0 (fun q : Nat => s.heap.size ≤ q) ro_pupils ro_mood le_seed le_questions le_rightOnes le_wrongOnes le_isKept ((((xs (nI i + (1 : Int32)).toNatClampNeg).toInt64) <<< ((32 : Int32).toInt64 &&& 63)) ||| (((xs (nI i + (2 : Int32)).toNatClampNeg).toInt64) &&& (4294967295 : Int64))) u hu h0 h3 h10 hD) rfl rfl ⟨Nat.le_of_ble_eq_true rfl, Nat.le_of_ble_eq_true rfl⟩ hP h0 rfl rfl hl.1 rfl (Nat.le_of_ble_eq_true rfl) dL_law_871 ⟨Nat.le_of_ble_eq_true rfl, Nat.le_of_ble_eq_true rfl⟩) hS (fun w1 H locs hP hD hk hB hS => ?_)
  have h10 : w1[10]? = some (a 10, .inr (2, [.ref (a 11), .ref (a 12), .long u.2, .int le_questions, .int le_rightOnes, .int le_wrongOnes, .int le_isKept])) := hB
  have h0 := (hk 0 (by decide)).trans h0
  have h1 := (hk 1 (by decide)).trans h1
  have h2 := (hk 2 (by decide)).trans h2
  have h3 := (hk 3 (by decide)).trans h3
  have h4 := (hk 4 (by decide)).trans h4
  have h5 := (hk 5 (by decide)).trans h5
  have h6 := (hk 6 (by decide)).trans h6
  have h7 := (hk 7 (by decide)).trans h7
  have h8 := (hk 8 (by decide)).trans h8
  have h9 := (hk 9 (by decide)).trans h9
  have h11 := (hk 11 (by decide)).trans h11
  have h12 := (hk 12 (by decide)).trans h12
  have h13 := (hk 13 (by decide)).trans h13
  have h14 := (hk 14 (by decide)).trans h14
  have h15 := (hk 15 (by decide)).trans h15
  have h16 := (hk 16 (by decide)).trans h16
  have h17 := (hk 17 (by decide)).trans h17
  have h18 := (hk 18 (by decide)).trans h18
  have h19 := (hk 19 (by decide)).trans h19
  have h20 := (hk 20 (by decide)).trans h20
  have h21 := (hk 21 (by decide)).trans h21
  have h22 := (hk 22 (by decide)).trans h22
  have h23 := (hk 23 (by decide)).trans h23
  have h24 := (hk 24 (by decide)).trans h24
  have h25 := (hk 25 (by decide)).trans h25
  have h26 := (hk 26 (by decide)).trans h26
  have h27 := (hk 27 (by decide)).trans h27
  have h28 := (hk 28 (by decide)).trans h28
  have h29 := (hk 29 (by decide)).trans h29
  have h30 := (hk 30 (by decide)).trans h30
  have h31 := (hk 31 (by decide)).trans h31
  have h32 := (hk 32 (by decide)).trans h32
  have h33 := (hk 33 (by decide)).trans h33
  have h34 := (hk 34 (by decide)).trans h34
  have h35 := (hk 35 (by decide)).trans h35
  have h36 := (hk 36 (by decide)).trans h36
  have h37 := (hk 37 (by decide)).trans h37
  have h38 := (hk 38 (by decide)).trans h38
  have h39 := (hk 39 (by decide)).trans h39
  have h40 := (hk 40 (by decide)).trans h40
  have h41 := (hk 41 (by decide)).trans h41
  have h42 := (hk 42 (by decide)).trans h42
  have h43 := (hk 43 (by decide)).trans h43
  have h44 := (hk 44 (by decide)).trans h44
  have h45 := (hk 45 (by decide)).trans h45
  have h46 := (hk 46 (by decide)).trans h46
  have h47 := (hk 47 (by decide)).trans h47
  have h48 := (hk 48 (by decide)).trans h48
  have h49 := (hk 49 (by decide)).trans h49
  have h50 := (hk 50 (by decide)).trans h50
  have h51 := (hk 51 (by decide)).trans h51
  refine lv_aload_n hx hb dL_law_874 rfl (lv_at hl 2 rfl) ?_
  refine lv_aload_n hx hb dL_law_875 rfl (lv_at hl 0 rfl) ?_
  refine lv_iload_n hx hb dL_law_876 rfl (lv_at hl 3 rfl) ?_
  refine lv_iconst (v := (1 : Int32)) hx hb dL_law_877 (by decide) ?_
  refine lv_iadd hx hb dL_law_878 ?_
  refine va_sld hx hb hX hbl hbA hS i1 dL_law_879 ?_
  refine lv_i2l hx hb dL_law_880 rfl ?_
  refine lv_bipush (v := (32 : Int32)) hx hb dL_law_881 (by decide) ?_
  refine lv_lshl hx hb dL_law_883 rfl ?_
  refine lv_aload_n hx hb dL_law_884 rfl (lv_at hl 0 rfl) ?_
  refine lv_iload_n hx hb dL_law_885 rfl (lv_at hl 3 rfl) ?_
  refine lv_iconst (v := (2 : Int32)) hx hb dL_law_886 (by decide) ?_
  refine lv_iadd hx hb dL_law_887 ?_
  refine va_sld hx hb hX hbl hbA hS i2 dL_law_888 ?_
  refine lv_i2l hx hb dL_law_889 rfl ?_
  refine lv_ldc2 (v := (4294967295 : Int64)) hx hb hown (hts _ kl_L_13) dL_law_890 ?_
  refine lv_land hx hb dL_law_893 ?_
  refine lv_lor hx hb dL_law_894 ?_
  refine wr_l (runV (As := [.long ((((xs (nI i + (1 : Int32)).toNatClampNeg).toInt64) <<< ((32 : Int32).toInt64 &&& 63)) ||| (((xs (nI i + (2 : Int32)).toNatClampNeg).toInt64) &&& (4294967295 : Int64)))]) (rest := [.long u.1]) X cq_X9_seed lk_L_97 (c_X9_seed l D cI cJ cZ a w1 (fun q : Nat => s.heap.size ≤ q) m_readMany m_pupils m_mood m_length m_at m_faultAt m_drawn m_questions m_rights m_wrongs m_tapes m_trials ((((xs (nI i + (1 : Int32)).toNatClampNeg).toInt64) <<< ((32 : Int32).toInt64 &&& 63)) ||| (((xs (nI i + (2 : Int32)).toNatClampNeg).toInt64) &&& (4294967295 : Int64))) v hv h35 hD) rfl rfl ⟨Nat.le_of_ble_eq_true rfl, Nat.le_of_ble_eq_true rfl⟩ hP h35 rfl rfl hl.1 rfl (Nat.le_of_ble_eq_true rfl) dL_law_895 ⟨Nat.le_of_ble_eq_true rfl, Nat.le_of_ble_eq_true rfl⟩) hS (fun w2 H locs hP hD hk hB hS => ?_)
  have h35 : w2[35]? = some (a 35, .inr (9, [.ref (a 36), .int m_readMany, .ref (a 37), .int m_pupils, .ref (a 38), .ref (a 39), .int m_mood, .ref (a 40), .int m_length, .int m_at, .int m_faultAt, .ref (a 41), .ref (a 42), .long v.2, .int m_questions, .int m_rights, .int m_wrongs, .int m_tapes, .ref (a 43), .ref (a 44), .int m_trials, .ref (a 45), .ref (a 46), .ref (a 47), .ref (a 48), .ref (a 49), .ref (a 50), .ref (a 51)])) := hB
  have h0 := (hk 0 (by decide)).trans h0
  have h1 := (hk 1 (by decide)).trans h1
  have h2 := (hk 2 (by decide)).trans h2
  have h3 := (hk 3 (by decide)).trans h3
  have h4 := (hk 4 (by decide)).trans h4
  have h5 := (hk 5 (by decide)).trans h5
  have h6 := (hk 6 (by decide)).trans h6
  have h7 := (hk 7 (by decide)).trans h7
  have h8 := (hk 8 (by decide)).trans h8
  have h9 := (hk 9 (by decide)).trans h9
  have h10 := (hk 10 (by decide)).trans h10
  have h11 := (hk 11 (by decide)).trans h11
  have h12 := (hk 12 (by decide)).trans h12
  have h13 := (hk 13 (by decide)).trans h13
  have h14 := (hk 14 (by decide)).trans h14
  have h15 := (hk 15 (by decide)).trans h15
  have h16 := (hk 16 (by decide)).trans h16
  have h17 := (hk 17 (by decide)).trans h17
  have h18 := (hk 18 (by decide)).trans h18
  have h19 := (hk 19 (by decide)).trans h19
  have h20 := (hk 20 (by decide)).trans h20
  have h21 := (hk 21 (by decide)).trans h21
  have h22 := (hk 22 (by decide)).trans h22
  have h23 := (hk 23 (by decide)).trans h23
  have h24 := (hk 24 (by decide)).trans h24
  have h25 := (hk 25 (by decide)).trans h25
  have h26 := (hk 26 (by decide)).trans h26
  have h27 := (hk 27 (by decide)).trans h27
  have h28 := (hk 28 (by decide)).trans h28
  have h29 := (hk 29 (by decide)).trans h29
  have h30 := (hk 30 (by decide)).trans h30
  have h31 := (hk 31 (by decide)).trans h31
  have h32 := (hk 32 (by decide)).trans h32
  have h33 := (hk 33 (by decide)).trans h33
  have h34 := (hk 34 (by decide)).trans h34
  have h36 := (hk 36 (by decide)).trans h36
  have h37 := (hk 37 (by decide)).trans h37
  have h38 := (hk 38 (by decide)).trans h38
  have h39 := (hk 39 (by decide)).trans h39
  have h40 := (hk 40 (by decide)).trans h40
  have h41 := (hk 41 (by decide)).trans h41
  have h42 := (hk 42 (by decide)).trans h42
  have h43 := (hk 43 (by decide)).trans h43
  have h44 := (hk 44 (by decide)).trans h44
  have h45 := (hk 45 (by decide)).trans h45
  have h46 := (hk 46 (by decide)).trans h46
  have h47 := (hk 47 (by decide)).trans h47
  have h48 := (hk 48 (by decide)).trans h48
  have h49 := (hk 49 (by decide)).trans h49
  have h50 := (hk 50 (by decide)).trans h50
  have h51 := (hk 51 (by decide)).trans h51
  refine W.lcmp hx hb dL_law_898 ?_
  refine lv_if_eq (tgt := 1535) hx hb dL_law_899 (by decide) (fun _ => ?_) (fun q => absurd ((lc_eq _ _).mpr he) q)
  exact KK tx_length tx_bytes ro_pupils ro_mood ro_letters ro_rows ro_columns ro_tenths ro_needs ro_toldDares u.2 le_questions le_rightOnes le_wrongOnes le_isKept le_dares le_times ha_cells ch_pupils ch_rule ch_ranks ch_eligible ch_eligibleAndRight ch_cells s1_seed s1_questions s1_rightOnes s1_wrongOnes s1_isKept s1_dares s1_times s2_seed s2_questions s2_rightOnes s2_wrongOnes s2_isKept s2_dares s2_times ta_size ta_hands ta_ones ta_cells tr_waited tr_size tr_hands m_readMany m_pupils m_mood m_length m_at m_faultAt v.2 m_questions m_rights m_wrongs m_tapes m_trials m_read m_pupil m_dares m_times m_text m_joint m_others m_tapeHands m_tapeTaken m_trialHands m_trialWaited m_isKept m_keptDares m_keptTimes m_keptDrawn m_keptLesson hR2 _ _ _ hP hD hS ⟨h0, h1, h2, h3, h4, h5, h6, h7, h8, h9, h10, h11, h12, h13, h14, h15, h16, h17, h18, h19, h20, h21, h22, h23, h24, h25, h26, h27, h28, h29, h30, h31, h32, h33, h34, h35, h36, h37, h38, h39, h40, h41, h42, h43, h44, h45, h46, h47, h48, h49, h50, h51⟩ ls hl
set_option maxHeartbeats 4000000 in
set_option maxRecDepth 100000 in
theorem case_19 {p : Program} {l : Launch} {e : Env} {s : State} {m : MethodId} {below : List Frame} {meth : Method} {c : Code} {D : va_G} {cI cJ cZ : ClassId} {a : Nat → Nat} {b L : Nat} {xs : Nat → Int32} (C0 : lw_At p s m meth c b L xs) (X : Cx yL_law code 4 ret D cI cJ cZ p s m #[Value.ref b] meth c) (i : Nat) (hi : i + 5 < L) (hL : L ≤ 3072) (tx_length : Int32) (tx_bytes : Nat → Int32) (ro_pupils : Int32) (ro_mood : Int32) (ro_letters : Nat → Int32) (ro_rows : Nat → Int32) (ro_columns : Nat → Int32) (ro_tenths : Nat → Int32) (ro_needs : Nat → Int32) (ro_toldDares : Nat → Int32) (le_seed : Int64) (le_questions : Int32) (le_rightOnes : Int32) (le_wrongOnes : Int32) (le_isKept : Int32) (le_dares : Nat → Int32) (le_times : Nat → Int32) (ha_cells : Nat → Int64) (ch_pupils : Int32) (ch_rule : Int32) (ch_ranks : Nat → Int32) (ch_eligible : Nat → Int32) (ch_eligibleAndRight : Nat → Int32) (ch_cells : Nat → Int64) (s1_seed : Int64) (s1_questions : Int32) (s1_rightOnes : Int32) (s1_wrongOnes : Int32) (s1_isKept : Int32) (s1_dares : Nat → Int32) (s1_times : Nat → Int32) (s2_seed : Int64) (s2_questions : Int32) (s2_rightOnes : Int32) (s2_wrongOnes : Int32) (s2_isKept : Int32) (s2_dares : Nat → Int32) (s2_times : Nat → Int32) (ta_size : Int32) (ta_hands : Nat → Int32) (ta_ones : Nat → Int32) (ta_cells : Nat → Int64) (tr_waited : Int32) (tr_size : Int32) (tr_hands : Nat → Int32) (m_readMany : Int32) (m_pupils : Int32) (m_mood : Int32) (m_length : Int32) (m_at : Int32) (m_faultAt : Int32) (m_drawn : Int64) (m_questions : Int32) (m_rights : Int32) (m_wrongs : Int32) (m_tapes : Int32) (m_trials : Int32) (m_read : Nat → Int32) (m_pupil : Nat → Int32) (m_dares : Nat → Int32) (m_times : Nat → Int32) (m_text : Nat → Int32) (m_joint : Nat → Int64) (m_others : Nat → Int64) (m_tapeHands : Nat → Int32) (m_tapeTaken : Nat → Int32) (m_trialHands : Nat → Int32) (m_trialWaited : Nat → Int32) (m_isKept : Nat → Int32) (m_keptDares : Nat → Int32) (m_keptTimes : Nat → Int32) (m_keptDrawn : Nat → Int64) (m_keptLesson : Nat → Int32) (hR : Rel i tx_length tx_bytes ro_pupils ro_mood ro_letters ro_rows ro_columns ro_tenths ro_needs ro_toldDares le_seed le_questions le_rightOnes le_wrongOnes le_dares le_times s1_seed s1_questions s1_rightOnes s1_wrongOnes s1_isKept s1_dares s1_times s2_seed s2_questions s2_rightOnes s2_wrongOnes s2_isKept s2_dares s2_times ta_size ta_hands ta_ones tr_waited tr_size tr_hands m_pupils m_mood m_length m_drawn m_questions m_rights m_wrongs m_tapes m_trials m_pupil m_dares m_times m_text m_tapeHands m_tapeTaken m_trialHands m_trialWaited m_isKept m_keptDares m_keptTimes m_keptDrawn m_keptLesson) (ws0 : va_W) (H : Heap) (locs : List Loc) (hP : va_P D vwCl ws0 H) (hD : va_D (fun q : Nat => s.heap.size ≤ q) ws0) (hS : va_S (fun q : Nat => s.heap.size ≤ q) s.heap H locs) (hw : wAll a cI cJ cZ ws0 tx_length tx_bytes ro_pupils ro_mood ro_letters ro_rows ro_columns ro_tenths ro_needs ro_toldDares le_seed le_questions le_rightOnes le_wrongOnes le_isKept le_dares le_times ha_cells ch_pupils ch_rule ch_ranks ch_eligible ch_eligibleAndRight ch_cells s1_seed s1_questions s1_rightOnes s1_wrongOnes s1_isKept s1_dares s1_times s2_seed s2_questions s2_rightOnes s2_wrongOnes s2_isKept s2_dares s2_times ta_size ta_hands ta_ones ta_cells tr_waited tr_size tr_hands m_readMany m_pupils m_mood m_length m_at m_faultAt m_drawn m_questions m_rights m_wrongs m_tapes m_trials m_read m_pupil m_dares m_times m_text m_joint m_others m_tapeHands m_tapeTaken m_trialHands m_trialWaited m_isKept m_keptDares m_keptTimes m_keptDrawn m_keptLesson) (ls : Array Slot) (hl : lv_has ls 4 [(0, .ref b), (1, .ref (a 0)), (2, .ref (a 35)), (3, .int (nI i))]) (KK : ∀ (tx_length : Int32) (tx_bytes : Nat → Int32) (ro_pupils : Int32) (ro_mood : Int32) (ro_letters : Nat → Int32) (ro_rows : Nat → Int32) (ro_columns : Nat → Int32) (ro_tenths : Nat → Int32) (ro_needs : Nat → Int32) (ro_toldDares : Nat → Int32) (le_seed : Int64) (le_questions : Int32) (le_rightOnes : Int32) (le_wrongOnes : Int32) (le_isKept : Int32) (le_dares : Nat → Int32) (le_times : Nat → Int32) (ha_cells : Nat → Int64) (ch_pupils : Int32) (ch_rule : Int32) (ch_ranks : Nat → Int32) (ch_eligible : Nat → Int32) (ch_eligibleAndRight : Nat → Int32) (ch_cells : Nat → Int64) (s1_seed : Int64) (s1_questions : Int32) (s1_rightOnes : Int32) (s1_wrongOnes : Int32) (s1_isKept : Int32) (s1_dares : Nat → Int32) (s1_times : Nat → Int32) (s2_seed : Int64) (s2_questions : Int32) (s2_rightOnes : Int32) (s2_wrongOnes : Int32) (s2_isKept : Int32) (s2_dares : Nat → Int32) (s2_times : Nat → Int32) (ta_size : Int32) (ta_hands : Nat → Int32) (ta_ones : Nat → Int32) (ta_cells : Nat → Int64) (tr_waited : Int32) (tr_size : Int32) (tr_hands : Nat → Int32) (m_readMany : Int32) (m_pupils : Int32) (m_mood : Int32) (m_length : Int32) (m_at : Int32) (m_faultAt : Int32) (m_drawn : Int64) (m_questions : Int32) (m_rights : Int32) (m_wrongs : Int32) (m_tapes : Int32) (m_trials : Int32) (m_read : Nat → Int32) (m_pupil : Nat → Int32) (m_dares : Nat → Int32) (m_times : Nat → Int32) (m_text : Nat → Int32) (m_joint : Nat → Int64) (m_others : Nat → Int64) (m_tapeHands : Nat → Int32) (m_tapeTaken : Nat → Int32) (m_trialHands : Nat → Int32) (m_trialWaited : Nat → Int32) (m_isKept : Nat → Int32) (m_keptDares : Nat → Int32) (m_keptTimes : Nat → Int32) (m_keptDrawn : Nat → Int64) (m_keptLesson : Nat → Int32), Rel (i + 1) tx_length tx_bytes ro_pupils ro_mood ro_letters ro_rows ro_columns ro_tenths ro_needs ro_toldDares le_seed le_questions le_rightOnes le_wrongOnes le_dares le_times s1_seed s1_questions s1_rightOnes s1_wrongOnes s1_isKept s1_dares s1_times s2_seed s2_questions s2_rightOnes s2_wrongOnes s2_isKept s2_dares s2_times ta_size ta_hands ta_ones tr_waited tr_size tr_hands m_pupils m_mood m_length m_drawn m_questions m_rights m_wrongs m_tapes m_trials m_pupil m_dares m_times m_text m_tapeHands m_tapeTaken m_trialHands m_trialWaited m_isKept m_keptDares m_keptTimes m_keptDrawn m_keptLesson → ∀ (w : va_W) (H : Heap) (locs : List Loc), va_P D vwCl w H → va_D (fun q : Nat => s.heap.size ≤ q) w → va_S (fun q : Nat => s.heap.size ≤ q) s.heap H locs → wAll a cI cJ cZ w tx_length tx_bytes ro_pupils ro_mood ro_letters ro_rows ro_columns ro_tenths ro_needs ro_toldDares le_seed le_questions le_rightOnes le_wrongOnes le_isKept le_dares le_times ha_cells ch_pupils ch_rule ch_ranks ch_eligible ch_eligibleAndRight ch_cells s1_seed s1_questions s1_rightOnes s1_wrongOnes s1_isKept s1_dares s1_times s2_seed s2_questions s2_rightOnes s2_wrongOnes s2_isKept s2_dares s2_times ta_size ta_hands ta_ones ta_cells tr_waited tr_size tr_hands m_readMany m_pupils m_mood m_length m_at m_faultAt m_drawn m_questions m_rights m_wrongs m_tapes m_trials m_read m_pupil m_dares m_times m_text m_joint m_others m_tapeHands m_tapeTaken m_trialHands m_trialWaited m_isKept m_keptDares m_keptTimes m_keptDrawn m_keptLesson → ∀ ls : Array Slot, lv_has ls 4 [(0, .ref b), (1, .ref (a 0)), (2, .ref (a 35)), (3, .int (nI i))] → W p l e room_1 s m #[Value.ref b] below meth c H locs 52 1402 (lw_Z below #[Value.ref b] s) (F0 m 1535 ls [])) : W p l e room_1 s m #[Value.ref b] below meth c H locs 52 1402 (lw_Z below #[Value.ref b] s) (F0 m 904 ls []) := by
  obtain ⟨-, -, -, -, -, -, hX, hbl, -, -⟩ := C0
  obtain ⟨hx, hb, hr, hml, hown, hts, hlk, hK, hN⟩ := id X
  have hown : s.vm.findClass RL = some m.cls := hown
  have hbA : ¬ (fun q : Nat => s.heap.size ≤ q) b := Nat.not_le.mpr hbl
  obtain ⟨h0, h1, h2, h3, h4, h5, h6, h7, h8, h9, h10, h11, h12, h13, h14, h15, h16, h17, h18, h19, h20, h21, h22, h23, h24, h25, h26, h27, h28, h29, h30, h31, h32, h33, h34, h35, h36, h37, h38, h39, h40, h41, h42, h43, h44, h45, h46, h47, h48, h49, h50, h51⟩ := hw
  have i1 : vp_in (nI i + (1 : Int32)) L := by rw [show (1 : Int32) = nI 1 from rfl, nI_add]; exact vp_in_nI (by omega) (by omega)
  have i2 : vp_in (nI i + (2 : Int32)) L := by rw [show (2 : Int32) = nI 2 from rfl, nI_add]; exact vp_in_nI (by omega) (by omega)
  have i3 : vp_in (nI i + (3 : Int32)) L := by rw [show (3 : Int32) = nI 3 from rfl, nI_add]; exact vp_in_nI (by omega) (by omega)
  have i4 : vp_in (nI i + (4 : Int32)) L := by rw [show (4 : Int32) = nI 4 from rfl, nI_add]; exact vp_in_nI (by omega) (by omega)
  have i5 : vp_in (nI i + (5 : Int32)) L := by rw [show (5 : Int32) = nI 5 from rfl, nI_add]; exact vp_in_nI (by omega) (by omega)
  by_cases hz : xs (nI i + (4 : Int32)).toNatClampNeg = 0
  · obtain ⟨u, v, hu, hv, he, hR2⟩ := P_ask i (by omega) tx_length tx_bytes ro_pupils ro_mood ro_letters ro_rows ro_columns ro_tenths ro_needs ro_toldDares le_seed le_questions le_rightOnes le_wrongOnes le_isKept le_dares le_times ha_cells ch_pupils ch_rule ch_ranks ch_eligible ch_eligibleAndRight ch_cells s1_seed s1_questions s1_rightOnes s1_wrongOnes s1_isKept s1_dares s1_times s2_seed s2_questions s2_rightOnes s2_wrongOnes s2_isKept s2_dares s2_times ta_size ta_hands ta_ones ta_cells tr_waited tr_size tr_hands m_readMany m_pupils m_mood m_length m_at m_faultAt m_drawn m_questions m_rights m_wrongs m_tapes m_trials m_read m_pupil m_dares m_times m_text m_joint m_others m_tapeHands m_tapeTaken m_trialHands m_trialWaited m_isKept m_keptDares m_keptTimes m_keptDrawn m_keptLesson (xs (nI i + (1 : Int32)).toNatClampNeg) (xs (nI i + (2 : Int32)).toNatClampNeg) (xs (nI i + (3 : Int32)).toNatClampNeg) (0 : Int32) (by decide) hR
    refine lv_aload_n hx hb dL_law_904 rfl (lv_at hl 1 rfl) ?_
    refine lv_aload_n hx hb dL_law_905 rfl (lv_at hl 0 rfl) ?_
    refine lv_iload_n hx hb dL_law_906 rfl (lv_at hl 3 rfl) ?_
    refine lv_iconst (v := (1 : Int32)) hx hb dL_law_907 (by decide) ?_
    refine lv_iadd hx hb dL_law_908 ?_
    refine va_sld hx hb hX hbl hbA hS i1 dL_law_909 ?_
    refine lv_aload_n hx hb dL_law_910 rfl (lv_at hl 0 rfl) ?_
    refine lv_iload_n hx hb dL_law_911 rfl (lv_at hl 3 rfl) ?_
    refine lv_iconst (v := (2 : Int32)) hx hb dL_law_912 (by decide) ?_
    refine lv_iadd hx hb dL_law_913 ?_
    refine va_sld hx hb hX hbl hbA hS i2 dL_law_914 ?_
    refine lv_aload_n hx hb dL_law_915 rfl (lv_at hl 0 rfl) ?_
    refine lv_iload_n hx hb dL_law_916 rfl (lv_at hl 3 rfl) ?_
    refine lv_iconst (v := (3 : Int32)) hx hb dL_law_917 (by decide) ?_
    refine lv_iadd hx hb dL_law_918 ?_
    refine va_sld hx hb hX hbl hbA hS i3 dL_law_919 ?_
    refine lv_aload_n hx hb dL_law_920 rfl (lv_at hl 0 rfl) ?_
    refine lv_iload_n hx hb dL_law_921 rfl (lv_at hl 3 rfl) ?_
    refine lv_iconst (v := (4 : Int32)) hx hb dL_law_922 (by decide) ?_
    refine lv_iadd hx hb dL_law_923 ?_
    refine va_sld hx hb hX hbl hbA hS i4 dL_law_924 ?_
    refine lv_if_eq (tgt := 932) hx hb dL_law_925 (by decide) (fun _ => ?_) (fun q => absurd hz q)
    refine lv_iconst (v := (0 : Int32)) hx hb dL_law_932 (by decide) ?_
    refine wr_i (runV (As := [.int (xs (nI i + (1 : Int32)).toNatClampNeg), .int (xs (nI i + (2 : Int32)).toNatClampNeg), .int (xs (nI i + (3 : Int32)).toNatClampNeg), .int (0 : Int32)]) (rest := []) X cq_X8_ask lk_L_98 (c_X8_ask l D cI cJ cZ a ws0 (fun q : Nat => s.heap.size ≤ q) ro_pupils ro_mood ro_letters ro_rows ro_columns ro_needs le_seed le_questions le_rightOnes le_wrongOnes le_isKept le_dares le_times (xs (nI i + (1 : Int32)).toNatClampNeg) (xs (nI i + (2 : Int32)).toNatClampNeg) (xs (nI i + (3 : Int32)).toNatClampNeg) (0 : Int32) u hu h0 h3 h4 h5 h6 h8 h10 h11 h12 hD) rfl rfl ⟨Nat.le_of_ble_eq_true rfl, Nat.le_of_ble_eq_true rfl⟩ hP h0 rfl rfl hl.1 rfl (Nat.le_of_ble_eq_true rfl) dL_law_933 ⟨Nat.le_of_ble_eq_true rfl, Nat.le_of_ble_eq_true rfl⟩) hS (fun w1 H locs hP hD hk hB hS => ?_)
    obtain ⟨hB0, hB1, hB2⟩ := hB
    have h10 : w1[10]? = some (a 10, .inr (2, [.ref (a 11), .ref (a 12), .long u.2.1, .int u.2.2.1, .int u.2.2.2.2.2.2, .int u.2.2.2.2.1, .int le_isKept])) := hB0
    have h12 : w1[12]? = some (a 12, .inl (cI, 12, .inl u.2.2.2.1)) := hB1
    have h11 : w1[11]? = some (a 11, .inl (cI, 12, .inl u.2.2.2.2.2.1)) := hB2
    have h0 := (hk 0 (by decide)).trans h0
    have h1 := (hk 1 (by decide)).trans h1
    have h2 := (hk 2 (by decide)).trans h2
    have h3 := (hk 3 (by decide)).trans h3
    have h4 := (hk 4 (by decide)).trans h4
    have h5 := (hk 5 (by decide)).trans h5
    have h6 := (hk 6 (by decide)).trans h6
    have h7 := (hk 7 (by decide)).trans h7
    have h8 := (hk 8 (by decide)).trans h8
    have h9 := (hk 9 (by decide)).trans h9
    have h13 := (hk 13 (by decide)).trans h13
    have h14 := (hk 14 (by decide)).trans h14
    have h15 := (hk 15 (by decide)).trans h15
    have h16 := (hk 16 (by decide)).trans h16
    have h17 := (hk 17 (by decide)).trans h17
    have h18 := (hk 18 (by decide)).trans h18
    have h19 := (hk 19 (by decide)).trans h19
    have h20 := (hk 20 (by decide)).trans h20
    have h21 := (hk 21 (by decide)).trans h21
    have h22 := (hk 22 (by decide)).trans h22
    have h23 := (hk 23 (by decide)).trans h23
    have h24 := (hk 24 (by decide)).trans h24
    have h25 := (hk 25 (by decide)).trans h25
    have h26 := (hk 26 (by decide)).trans h26
    have h27 := (hk 27 (by decide)).trans h27
    have h28 := (hk 28 (by decide)).trans h28
    have h29 := (hk 29 (by decide)).trans h29
    have h30 := (hk 30 (by decide)).trans h30
    have h31 := (hk 31 (by decide)).trans h31
    have h32 := (hk 32 (by decide)).trans h32
    have h33 := (hk 33 (by decide)).trans h33
    have h34 := (hk 34 (by decide)).trans h34
    have h35 := (hk 35 (by decide)).trans h35
    have h36 := (hk 36 (by decide)).trans h36
    have h37 := (hk 37 (by decide)).trans h37
    have h38 := (hk 38 (by decide)).trans h38
    have h39 := (hk 39 (by decide)).trans h39
    have h40 := (hk 40 (by decide)).trans h40
    have h41 := (hk 41 (by decide)).trans h41
    have h42 := (hk 42 (by decide)).trans h42
    have h43 := (hk 43 (by decide)).trans h43
    have h44 := (hk 44 (by decide)).trans h44
    have h45 := (hk 45 (by decide)).trans h45
    have h46 := (hk 46 (by decide)).trans h46
    have h47 := (hk 47 (by decide)).trans h47
    have h48 := (hk 48 (by decide)).trans h48
    have h49 := (hk 49 (by decide)).trans h49
    have h50 := (hk 50 (by decide)).trans h50
    have h51 := (hk 51 (by decide)).trans h51
    refine lv_aload_n hx hb dL_law_936 rfl (lv_at hl 2 rfl) ?_
    refine lv_aload_n hx hb dL_law_937 rfl (lv_at hl 0 rfl) ?_
    refine lv_iload_n hx hb dL_law_938 rfl (lv_at hl 3 rfl) ?_
    refine lv_iconst (v := (1 : Int32)) hx hb dL_law_939 (by decide) ?_
    refine lv_iadd hx hb dL_law_940 ?_
    refine va_sld hx hb hX hbl hbA hS i1 dL_law_941 ?_
    refine lv_aload_n hx hb dL_law_942 rfl (lv_at hl 0 rfl) ?_
    refine lv_iload_n hx hb dL_law_943 rfl (lv_at hl 3 rfl) ?_
    refine lv_iconst (v := (2 : Int32)) hx hb dL_law_944 (by decide) ?_
    refine lv_iadd hx hb dL_law_945 ?_
    refine va_sld hx hb hX hbl hbA hS i2 dL_law_946 ?_
    refine lv_aload_n hx hb dL_law_947 rfl (lv_at hl 0 rfl) ?_
    refine lv_iload_n hx hb dL_law_948 rfl (lv_at hl 3 rfl) ?_
    refine lv_iconst (v := (3 : Int32)) hx hb dL_law_949 (by decide) ?_
    refine lv_iadd hx hb dL_law_950 ?_
    refine va_sld hx hb hX hbl hbA hS i3 dL_law_951 ?_
    refine lv_aload_n hx hb dL_law_952 rfl (lv_at hl 0 rfl) ?_
    refine lv_iload_n hx hb dL_law_953 rfl (lv_at hl 3 rfl) ?_
    refine lv_iconst (v := (4 : Int32)) hx hb dL_law_954 (by decide) ?_
    refine lv_iadd hx hb dL_law_955 ?_
    refine va_sld hx hb hX hbl hbA hS i4 dL_law_956 ?_
    refine lv_if_eq (tgt := 964) hx hb dL_law_957 (by decide) (fun _ => ?_) (fun q => absurd hz q)
    refine lv_iconst (v := (0 : Int32)) hx hb dL_law_964 (by decide) ?_
    refine wr_i (runV (As := [.int (xs (nI i + (1 : Int32)).toNatClampNeg), .int (xs (nI i + (2 : Int32)).toNatClampNeg), .int (xs (nI i + (3 : Int32)).toNatClampNeg), .int (0 : Int32)]) (rest := [.int u.1]) X cq_X9_ask lk_L_102 (c_X9_ask l D cI cJ cZ a w1 (fun q : Nat => s.heap.size ≤ q) m_readMany m_pupils m_mood m_length m_at m_faultAt m_drawn m_questions m_rights m_wrongs m_tapes m_trials m_pupil m_dares m_times (xs (nI i + (1 : Int32)).toNatClampNeg) (xs (nI i + (2 : Int32)).toNatClampNeg) (xs (nI i + (3 : Int32)).toNatClampNeg) (0 : Int32) v hv h35 h37 h38 h39 hD) rfl rfl ⟨Nat.le_of_ble_eq_true rfl, Nat.le_of_ble_eq_true rfl⟩ hP h35 rfl rfl hl.1 rfl (Nat.le_of_ble_eq_true rfl) dL_law_965 ⟨Nat.le_of_ble_eq_true rfl, Nat.le_of_ble_eq_true rfl⟩) hS (fun w2 H locs hP hD hk hB hS => ?_)
    obtain ⟨hB0, hB1, hB2⟩ := hB
    have h35 : w2[35]? = some (a 35, .inr (9, [.ref (a 36), .int m_readMany, .ref (a 37), .int m_pupils, .ref (a 38), .ref (a 39), .int m_mood, .ref (a 40), .int m_length, .int m_at, .int m_faultAt, .ref (a 41), .ref (a 42), .long v.2.2.2.2.2.2, .int v.2.1, .int v.2.2.2.2.1, .int v.2.2.2.2.2.1, .int m_tapes, .ref (a 43), .ref (a 44), .int m_trials, .ref (a 45), .ref (a 46), .ref (a 47), .ref (a 48), .ref (a 49), .ref (a 50), .ref (a 51)])) := hB0
    have h39 : w2[39]? = some (a 39, .inl (cI, 12, .inl v.2.2.1)) := hB1
    have h38 : w2[38]? = some (a 38, .inl (cI, 12, .inl v.2.2.2.1)) := hB2
    have h0 := (hk 0 (by decide)).trans h0
    have h1 := (hk 1 (by decide)).trans h1
    have h2 := (hk 2 (by decide)).trans h2
    have h3 := (hk 3 (by decide)).trans h3
    have h4 := (hk 4 (by decide)).trans h4
    have h5 := (hk 5 (by decide)).trans h5
    have h6 := (hk 6 (by decide)).trans h6
    have h7 := (hk 7 (by decide)).trans h7
    have h8 := (hk 8 (by decide)).trans h8
    have h9 := (hk 9 (by decide)).trans h9
    have h10 := (hk 10 (by decide)).trans h10
    have h11 := (hk 11 (by decide)).trans h11
    have h12 := (hk 12 (by decide)).trans h12
    have h13 := (hk 13 (by decide)).trans h13
    have h14 := (hk 14 (by decide)).trans h14
    have h15 := (hk 15 (by decide)).trans h15
    have h16 := (hk 16 (by decide)).trans h16
    have h17 := (hk 17 (by decide)).trans h17
    have h18 := (hk 18 (by decide)).trans h18
    have h19 := (hk 19 (by decide)).trans h19
    have h20 := (hk 20 (by decide)).trans h20
    have h21 := (hk 21 (by decide)).trans h21
    have h22 := (hk 22 (by decide)).trans h22
    have h23 := (hk 23 (by decide)).trans h23
    have h24 := (hk 24 (by decide)).trans h24
    have h25 := (hk 25 (by decide)).trans h25
    have h26 := (hk 26 (by decide)).trans h26
    have h27 := (hk 27 (by decide)).trans h27
    have h28 := (hk 28 (by decide)).trans h28
    have h29 := (hk 29 (by decide)).trans h29
    have h30 := (hk 30 (by decide)).trans h30
    have h31 := (hk 31 (by decide)).trans h31
    have h32 := (hk 32 (by decide)).trans h32
    have h33 := (hk 33 (by decide)).trans h33
    have h34 := (hk 34 (by decide)).trans h34
    have h36 := (hk 36 (by decide)).trans h36
    have h37 := (hk 37 (by decide)).trans h37
    have h40 := (hk 40 (by decide)).trans h40
    have h41 := (hk 41 (by decide)).trans h41
    have h42 := (hk 42 (by decide)).trans h42
    have h43 := (hk 43 (by decide)).trans h43
    have h44 := (hk 44 (by decide)).trans h44
    have h45 := (hk 45 (by decide)).trans h45
    have h46 := (hk 46 (by decide)).trans h46
    have h47 := (hk 47 (by decide)).trans h47
    have h48 := (hk 48 (by decide)).trans h48
    have h49 := (hk 49 (by decide)).trans h49
    have h50 := (hk 50 (by decide)).trans h50
    have h51 := (hk 51 (by decide)).trans h51
    refine lv_icmp_eq (tgt := 1535) hx hb dL_law_968 (by decide) (fun _ => ?_) (fun q => absurd he q)
    exact KK tx_length tx_bytes ro_pupils ro_mood ro_letters ro_rows ro_columns ro_tenths ro_needs ro_toldDares u.2.1 u.2.2.1 u.2.2.2.2.2.2 u.2.2.2.2.1 le_isKept u.2.2.2.2.2.1 u.2.2.2.1 ha_cells ch_pupils ch_rule ch_ranks ch_eligible ch_eligibleAndRight ch_cells s1_seed s1_questions s1_rightOnes s1_wrongOnes s1_isKept s1_dares s1_times s2_seed s2_questions s2_rightOnes s2_wrongOnes s2_isKept s2_dares s2_times ta_size ta_hands ta_ones ta_cells tr_waited tr_size tr_hands m_readMany m_pupils m_mood m_length m_at m_faultAt v.2.2.2.2.2.2 v.2.1 v.2.2.2.2.1 v.2.2.2.2.2.1 m_tapes m_trials m_read m_pupil v.2.2.2.1 v.2.2.1 m_text m_joint m_others m_tapeHands m_tapeTaken m_trialHands m_trialWaited m_isKept m_keptDares m_keptTimes m_keptDrawn m_keptLesson hR2 _ _ _ hP hD hS ⟨h0, h1, h2, h3, h4, h5, h6, h7, h8, h9, h10, h11, h12, h13, h14, h15, h16, h17, h18, h19, h20, h21, h22, h23, h24, h25, h26, h27, h28, h29, h30, h31, h32, h33, h34, h35, h36, h37, h38, h39, h40, h41, h42, h43, h44, h45, h46, h47, h48, h49, h50, h51⟩ ls hl
  · obtain ⟨u, v, hu, hv, he, hR2⟩ := P_ask i (by omega) tx_length tx_bytes ro_pupils ro_mood ro_letters ro_rows ro_columns ro_tenths ro_needs ro_toldDares le_seed le_questions le_rightOnes le_wrongOnes le_isKept le_dares le_times ha_cells ch_pupils ch_rule ch_ranks ch_eligible ch_eligibleAndRight ch_cells s1_seed s1_questions s1_rightOnes s1_wrongOnes s1_isKept s1_dares s1_times s2_seed s2_questions s2_rightOnes s2_wrongOnes s2_isKept s2_dares s2_times ta_size ta_hands ta_ones ta_cells tr_waited tr_size tr_hands m_readMany m_pupils m_mood m_length m_at m_faultAt m_drawn m_questions m_rights m_wrongs m_tapes m_trials m_read m_pupil m_dares m_times m_text m_joint m_others m_tapeHands m_tapeTaken m_trialHands m_trialWaited m_isKept m_keptDares m_keptTimes m_keptDrawn m_keptLesson (xs (nI i + (1 : Int32)).toNatClampNeg) (xs (nI i + (2 : Int32)).toNatClampNeg) (xs (nI i + (3 : Int32)).toNatClampNeg) (1 : Int32) (by decide) hR
    refine lv_aload_n hx hb dL_law_904 rfl (lv_at hl 1 rfl) ?_
    refine lv_aload_n hx hb dL_law_905 rfl (lv_at hl 0 rfl) ?_
    refine lv_iload_n hx hb dL_law_906 rfl (lv_at hl 3 rfl) ?_
    refine lv_iconst (v := (1 : Int32)) hx hb dL_law_907 (by decide) ?_
    refine lv_iadd hx hb dL_law_908 ?_
    refine va_sld hx hb hX hbl hbA hS i1 dL_law_909 ?_
    refine lv_aload_n hx hb dL_law_910 rfl (lv_at hl 0 rfl) ?_
    refine lv_iload_n hx hb dL_law_911 rfl (lv_at hl 3 rfl) ?_
    refine lv_iconst (v := (2 : Int32)) hx hb dL_law_912 (by decide) ?_
    refine lv_iadd hx hb dL_law_913 ?_
    refine va_sld hx hb hX hbl hbA hS i2 dL_law_914 ?_
    refine lv_aload_n hx hb dL_law_915 rfl (lv_at hl 0 rfl) ?_
    refine lv_iload_n hx hb dL_law_916 rfl (lv_at hl 3 rfl) ?_
    refine lv_iconst (v := (3 : Int32)) hx hb dL_law_917 (by decide) ?_
    refine lv_iadd hx hb dL_law_918 ?_
    refine va_sld hx hb hX hbl hbA hS i3 dL_law_919 ?_
    refine lv_aload_n hx hb dL_law_920 rfl (lv_at hl 0 rfl) ?_
    refine lv_iload_n hx hb dL_law_921 rfl (lv_at hl 3 rfl) ?_
    refine lv_iconst (v := (4 : Int32)) hx hb dL_law_922 (by decide) ?_
    refine lv_iadd hx hb dL_law_923 ?_
    refine va_sld hx hb hX hbl hbA hS i4 dL_law_924 ?_
    refine lv_if_eq (tgt := 932) hx hb dL_law_925 (by decide) (fun q => absurd q hz) (fun _ => ?_)
    refine lv_iconst (v := (1 : Int32)) hx hb dL_law_928 (by decide) ?_
    refine lv_goto (tgt := 933) hx hb dL_law_929 (by decide) ?_
    refine wr_i (runV (As := [.int (xs (nI i + (1 : Int32)).toNatClampNeg), .int (xs (nI i + (2 : Int32)).toNatClampNeg), .int (xs (nI i + (3 : Int32)).toNatClampNeg), .int (1 : Int32)]) (rest := []) X cq_X8_ask lk_L_98 (c_X8_ask l D cI cJ cZ a ws0 (fun q : Nat => s.heap.size ≤ q) ro_pupils ro_mood ro_letters ro_rows ro_columns ro_needs le_seed le_questions le_rightOnes le_wrongOnes le_isKept le_dares le_times (xs (nI i + (1 : Int32)).toNatClampNeg) (xs (nI i + (2 : Int32)).toNatClampNeg) (xs (nI i + (3 : Int32)).toNatClampNeg) (1 : Int32) u hu h0 h3 h4 h5 h6 h8 h10 h11 h12 hD) rfl rfl ⟨Nat.le_of_ble_eq_true rfl, Nat.le_of_ble_eq_true rfl⟩ hP h0 rfl rfl hl.1 rfl (Nat.le_of_ble_eq_true rfl) dL_law_933 ⟨Nat.le_of_ble_eq_true rfl, Nat.le_of_ble_eq_true rfl⟩) hS (fun w1 H locs hP hD hk hB hS => ?_)
    obtain ⟨hB0, hB1, hB2⟩ := hB
    have h10 : w1[10]? = some (a 10, .inr (2, [.ref (a 11), .ref (a 12), .long u.2.1, .int u.2.2.1, .int u.2.2.2.2.2.2, .int u.2.2.2.2.1, .int le_isKept])) := hB0
    have h12 : w1[12]? = some (a 12, .inl (cI, 12, .inl u.2.2.2.1)) := hB1
    have h11 : w1[11]? = some (a 11, .inl (cI, 12, .inl u.2.2.2.2.2.1)) := hB2
    have h0 := (hk 0 (by decide)).trans h0
    have h1 := (hk 1 (by decide)).trans h1
    have h2 := (hk 2 (by decide)).trans h2
    have h3 := (hk 3 (by decide)).trans h3
    have h4 := (hk 4 (by decide)).trans h4
    have h5 := (hk 5 (by decide)).trans h5
    have h6 := (hk 6 (by decide)).trans h6
    have h7 := (hk 7 (by decide)).trans h7
    have h8 := (hk 8 (by decide)).trans h8
    have h9 := (hk 9 (by decide)).trans h9
    have h13 := (hk 13 (by decide)).trans h13
    have h14 := (hk 14 (by decide)).trans h14
    have h15 := (hk 15 (by decide)).trans h15
    have h16 := (hk 16 (by decide)).trans h16
    have h17 := (hk 17 (by decide)).trans h17
    have h18 := (hk 18 (by decide)).trans h18
    have h19 := (hk 19 (by decide)).trans h19
    have h20 := (hk 20 (by decide)).trans h20
    have h21 := (hk 21 (by decide)).trans h21
    have h22 := (hk 22 (by decide)).trans h22
    have h23 := (hk 23 (by decide)).trans h23
    have h24 := (hk 24 (by decide)).trans h24
    have h25 := (hk 25 (by decide)).trans h25
    have h26 := (hk 26 (by decide)).trans h26
    have h27 := (hk 27 (by decide)).trans h27
    have h28 := (hk 28 (by decide)).trans h28
    have h29 := (hk 29 (by decide)).trans h29
    have h30 := (hk 30 (by decide)).trans h30
    have h31 := (hk 31 (by decide)).trans h31
    have h32 := (hk 32 (by decide)).trans h32
    have h33 := (hk 33 (by decide)).trans h33
    have h34 := (hk 34 (by decide)).trans h34
    have h35 := (hk 35 (by decide)).trans h35
    have h36 := (hk 36 (by decide)).trans h36
    have h37 := (hk 37 (by decide)).trans h37
    have h38 := (hk 38 (by decide)).trans h38
    have h39 := (hk 39 (by decide)).trans h39
    have h40 := (hk 40 (by decide)).trans h40
    have h41 := (hk 41 (by decide)).trans h41
    have h42 := (hk 42 (by decide)).trans h42
    have h43 := (hk 43 (by decide)).trans h43
    have h44 := (hk 44 (by decide)).trans h44
    have h45 := (hk 45 (by decide)).trans h45
    have h46 := (hk 46 (by decide)).trans h46
    have h47 := (hk 47 (by decide)).trans h47
    have h48 := (hk 48 (by decide)).trans h48
    have h49 := (hk 49 (by decide)).trans h49
    have h50 := (hk 50 (by decide)).trans h50
    have h51 := (hk 51 (by decide)).trans h51
    refine lv_aload_n hx hb dL_law_936 rfl (lv_at hl 2 rfl) ?_
    refine lv_aload_n hx hb dL_law_937 rfl (lv_at hl 0 rfl) ?_
    refine lv_iload_n hx hb dL_law_938 rfl (lv_at hl 3 rfl) ?_
    refine lv_iconst (v := (1 : Int32)) hx hb dL_law_939 (by decide) ?_
    refine lv_iadd hx hb dL_law_940 ?_
    refine va_sld hx hb hX hbl hbA hS i1 dL_law_941 ?_
    refine lv_aload_n hx hb dL_law_942 rfl (lv_at hl 0 rfl) ?_
    refine lv_iload_n hx hb dL_law_943 rfl (lv_at hl 3 rfl) ?_
    refine lv_iconst (v := (2 : Int32)) hx hb dL_law_944 (by decide) ?_
    refine lv_iadd hx hb dL_law_945 ?_
    refine va_sld hx hb hX hbl hbA hS i2 dL_law_946 ?_
    refine lv_aload_n hx hb dL_law_947 rfl (lv_at hl 0 rfl) ?_
    refine lv_iload_n hx hb dL_law_948 rfl (lv_at hl 3 rfl) ?_
    refine lv_iconst (v := (3 : Int32)) hx hb dL_law_949 (by decide) ?_
    refine lv_iadd hx hb dL_law_950 ?_
    refine va_sld hx hb hX hbl hbA hS i3 dL_law_951 ?_
    refine lv_aload_n hx hb dL_law_952 rfl (lv_at hl 0 rfl) ?_
    refine lv_iload_n hx hb dL_law_953 rfl (lv_at hl 3 rfl) ?_
    refine lv_iconst (v := (4 : Int32)) hx hb dL_law_954 (by decide) ?_
    refine lv_iadd hx hb dL_law_955 ?_
    refine va_sld hx hb hX hbl hbA hS i4 dL_law_956 ?_
    refine lv_if_eq (tgt := 964) hx hb dL_law_957 (by decide) (fun q => absurd q hz) (fun _ => ?_)
    refine lv_iconst (v := (1 : Int32)) hx hb dL_law_960 (by decide) ?_
    refine lv_goto (tgt := 965) hx hb dL_law_961 (by decide) ?_
    refine wr_i (runV (As := [.int (xs (nI i + (1 : Int32)).toNatClampNeg), .int (xs (nI i + (2 : Int32)).toNatClampNeg), .int (xs (nI i + (3 : Int32)).toNatClampNeg), .int (1 : Int32)]) (rest := [.int u.1]) X cq_X9_ask lk_L_102 (c_X9_ask l D cI cJ cZ a w1 (fun q : Nat => s.heap.size ≤ q) m_readMany m_pupils m_mood m_length m_at m_faultAt m_drawn m_questions m_rights m_wrongs m_tapes m_trials m_pupil m_dares m_times (xs (nI i + (1 : Int32)).toNatClampNeg) (xs (nI i + (2 : Int32)).toNatClampNeg) (xs (nI i + (3 : Int32)).toNatClampNeg) (1 : Int32) v hv h35 h37 h38 h39 hD) rfl rfl ⟨Nat.le_of_ble_eq_true rfl, Nat.le_of_ble_eq_true rfl⟩ hP h35 rfl rfl hl.1 rfl (Nat.le_of_ble_eq_true rfl) dL_law_965 ⟨Nat.le_of_ble_eq_true rfl, Nat.le_of_ble_eq_true rfl⟩) hS (fun w2 H locs hP hD hk hB hS => ?_)
    obtain ⟨hB0, hB1, hB2⟩ := hB
    have h35 : w2[35]? = some (a 35, .inr (9, [.ref (a 36), .int m_readMany, .ref (a 37), .int m_pupils, .ref (a 38), .ref (a 39), .int m_mood, .ref (a 40), .int m_length, .int m_at, .int m_faultAt, .ref (a 41), .ref (a 42), .long v.2.2.2.2.2.2, .int v.2.1, .int v.2.2.2.2.1, .int v.2.2.2.2.2.1, .int m_tapes, .ref (a 43), .ref (a 44), .int m_trials, .ref (a 45), .ref (a 46), .ref (a 47), .ref (a 48), .ref (a 49), .ref (a 50), .ref (a 51)])) := hB0
    have h39 : w2[39]? = some (a 39, .inl (cI, 12, .inl v.2.2.1)) := hB1
    have h38 : w2[38]? = some (a 38, .inl (cI, 12, .inl v.2.2.2.1)) := hB2
    have h0 := (hk 0 (by decide)).trans h0
    have h1 := (hk 1 (by decide)).trans h1
    have h2 := (hk 2 (by decide)).trans h2
    have h3 := (hk 3 (by decide)).trans h3
    have h4 := (hk 4 (by decide)).trans h4
    have h5 := (hk 5 (by decide)).trans h5
    have h6 := (hk 6 (by decide)).trans h6
    have h7 := (hk 7 (by decide)).trans h7
    have h8 := (hk 8 (by decide)).trans h8
    have h9 := (hk 9 (by decide)).trans h9
    have h10 := (hk 10 (by decide)).trans h10
    have h11 := (hk 11 (by decide)).trans h11
    have h12 := (hk 12 (by decide)).trans h12
    have h13 := (hk 13 (by decide)).trans h13
    have h14 := (hk 14 (by decide)).trans h14
    have h15 := (hk 15 (by decide)).trans h15
    have h16 := (hk 16 (by decide)).trans h16
    have h17 := (hk 17 (by decide)).trans h17
    have h18 := (hk 18 (by decide)).trans h18
    have h19 := (hk 19 (by decide)).trans h19
    have h20 := (hk 20 (by decide)).trans h20
    have h21 := (hk 21 (by decide)).trans h21
    have h22 := (hk 22 (by decide)).trans h22
    have h23 := (hk 23 (by decide)).trans h23
    have h24 := (hk 24 (by decide)).trans h24
    have h25 := (hk 25 (by decide)).trans h25
    have h26 := (hk 26 (by decide)).trans h26
    have h27 := (hk 27 (by decide)).trans h27
    have h28 := (hk 28 (by decide)).trans h28
    have h29 := (hk 29 (by decide)).trans h29
    have h30 := (hk 30 (by decide)).trans h30
    have h31 := (hk 31 (by decide)).trans h31
    have h32 := (hk 32 (by decide)).trans h32
    have h33 := (hk 33 (by decide)).trans h33
    have h34 := (hk 34 (by decide)).trans h34
    have h36 := (hk 36 (by decide)).trans h36
    have h37 := (hk 37 (by decide)).trans h37
    have h40 := (hk 40 (by decide)).trans h40
    have h41 := (hk 41 (by decide)).trans h41
    have h42 := (hk 42 (by decide)).trans h42
    have h43 := (hk 43 (by decide)).trans h43
    have h44 := (hk 44 (by decide)).trans h44
    have h45 := (hk 45 (by decide)).trans h45
    have h46 := (hk 46 (by decide)).trans h46
    have h47 := (hk 47 (by decide)).trans h47
    have h48 := (hk 48 (by decide)).trans h48
    have h49 := (hk 49 (by decide)).trans h49
    have h50 := (hk 50 (by decide)).trans h50
    have h51 := (hk 51 (by decide)).trans h51
    refine lv_icmp_eq (tgt := 1535) hx hb dL_law_968 (by decide) (fun _ => ?_) (fun q => absurd he q)
    exact KK tx_length tx_bytes ro_pupils ro_mood ro_letters ro_rows ro_columns ro_tenths ro_needs ro_toldDares u.2.1 u.2.2.1 u.2.2.2.2.2.2 u.2.2.2.2.1 le_isKept u.2.2.2.2.2.1 u.2.2.2.1 ha_cells ch_pupils ch_rule ch_ranks ch_eligible ch_eligibleAndRight ch_cells s1_seed s1_questions s1_rightOnes s1_wrongOnes s1_isKept s1_dares s1_times s2_seed s2_questions s2_rightOnes s2_wrongOnes s2_isKept s2_dares s2_times ta_size ta_hands ta_ones ta_cells tr_waited tr_size tr_hands m_readMany m_pupils m_mood m_length m_at m_faultAt v.2.2.2.2.2.2 v.2.1 v.2.2.2.2.1 v.2.2.2.2.2.1 m_tapes m_trials m_read m_pupil v.2.2.2.1 v.2.2.1 m_text m_joint m_others m_tapeHands m_tapeTaken m_trialHands m_trialWaited m_isKept m_keptDares m_keptTimes m_keptDrawn m_keptLesson hR2 _ _ _ hP hD hS ⟨h0, h1, h2, h3, h4, h5, h6, h7, h8, h9, h10, h11, h12, h13, h14, h15, h16, h17, h18, h19, h20, h21, h22, h23, h24, h25, h26, h27, h28, h29, h30, h31, h32, h33, h34, h35, h36, h37, h38, h39, h40, h41, h42, h43, h44, h45, h46, h47, h48, h49, h50, h51⟩ ls hl
set_option maxHeartbeats 4000000 in
set_option maxRecDepth 100000 in
theorem case_20 {p : Program} {l : Launch} {e : Env} {s : State} {m : MethodId} {below : List Frame} {meth : Method} {c : Code} {D : va_G} {cI cJ cZ : ClassId} {a : Nat → Nat} {b L : Nat} {xs : Nat → Int32} (C0 : lw_At p s m meth c b L xs) (X : Cx yL_law code 4 ret D cI cJ cZ p s m #[Value.ref b] meth c) (i : Nat) (hi : i + 5 < L) (hL : L ≤ 3072) (tx_length : Int32) (tx_bytes : Nat → Int32) (ro_pupils : Int32) (ro_mood : Int32) (ro_letters : Nat → Int32) (ro_rows : Nat → Int32) (ro_columns : Nat → Int32) (ro_tenths : Nat → Int32) (ro_needs : Nat → Int32) (ro_toldDares : Nat → Int32) (le_seed : Int64) (le_questions : Int32) (le_rightOnes : Int32) (le_wrongOnes : Int32) (le_isKept : Int32) (le_dares : Nat → Int32) (le_times : Nat → Int32) (ha_cells : Nat → Int64) (ch_pupils : Int32) (ch_rule : Int32) (ch_ranks : Nat → Int32) (ch_eligible : Nat → Int32) (ch_eligibleAndRight : Nat → Int32) (ch_cells : Nat → Int64) (s1_seed : Int64) (s1_questions : Int32) (s1_rightOnes : Int32) (s1_wrongOnes : Int32) (s1_isKept : Int32) (s1_dares : Nat → Int32) (s1_times : Nat → Int32) (s2_seed : Int64) (s2_questions : Int32) (s2_rightOnes : Int32) (s2_wrongOnes : Int32) (s2_isKept : Int32) (s2_dares : Nat → Int32) (s2_times : Nat → Int32) (ta_size : Int32) (ta_hands : Nat → Int32) (ta_ones : Nat → Int32) (ta_cells : Nat → Int64) (tr_waited : Int32) (tr_size : Int32) (tr_hands : Nat → Int32) (m_readMany : Int32) (m_pupils : Int32) (m_mood : Int32) (m_length : Int32) (m_at : Int32) (m_faultAt : Int32) (m_drawn : Int64) (m_questions : Int32) (m_rights : Int32) (m_wrongs : Int32) (m_tapes : Int32) (m_trials : Int32) (m_read : Nat → Int32) (m_pupil : Nat → Int32) (m_dares : Nat → Int32) (m_times : Nat → Int32) (m_text : Nat → Int32) (m_joint : Nat → Int64) (m_others : Nat → Int64) (m_tapeHands : Nat → Int32) (m_tapeTaken : Nat → Int32) (m_trialHands : Nat → Int32) (m_trialWaited : Nat → Int32) (m_isKept : Nat → Int32) (m_keptDares : Nat → Int32) (m_keptTimes : Nat → Int32) (m_keptDrawn : Nat → Int64) (m_keptLesson : Nat → Int32) (hR : Rel i tx_length tx_bytes ro_pupils ro_mood ro_letters ro_rows ro_columns ro_tenths ro_needs ro_toldDares le_seed le_questions le_rightOnes le_wrongOnes le_dares le_times s1_seed s1_questions s1_rightOnes s1_wrongOnes s1_isKept s1_dares s1_times s2_seed s2_questions s2_rightOnes s2_wrongOnes s2_isKept s2_dares s2_times ta_size ta_hands ta_ones tr_waited tr_size tr_hands m_pupils m_mood m_length m_drawn m_questions m_rights m_wrongs m_tapes m_trials m_pupil m_dares m_times m_text m_tapeHands m_tapeTaken m_trialHands m_trialWaited m_isKept m_keptDares m_keptTimes m_keptDrawn m_keptLesson) (ws0 : va_W) (H : Heap) (locs : List Loc) (hP : va_P D vwCl ws0 H) (hD : va_D (fun q : Nat => s.heap.size ≤ q) ws0) (hS : va_S (fun q : Nat => s.heap.size ≤ q) s.heap H locs) (hw : wAll a cI cJ cZ ws0 tx_length tx_bytes ro_pupils ro_mood ro_letters ro_rows ro_columns ro_tenths ro_needs ro_toldDares le_seed le_questions le_rightOnes le_wrongOnes le_isKept le_dares le_times ha_cells ch_pupils ch_rule ch_ranks ch_eligible ch_eligibleAndRight ch_cells s1_seed s1_questions s1_rightOnes s1_wrongOnes s1_isKept s1_dares s1_times s2_seed s2_questions s2_rightOnes s2_wrongOnes s2_isKept s2_dares s2_times ta_size ta_hands ta_ones ta_cells tr_waited tr_size tr_hands m_readMany m_pupils m_mood m_length m_at m_faultAt m_drawn m_questions m_rights m_wrongs m_tapes m_trials m_read m_pupil m_dares m_times m_text m_joint m_others m_tapeHands m_tapeTaken m_trialHands m_trialWaited m_isKept m_keptDares m_keptTimes m_keptDrawn m_keptLesson) (ls : Array Slot) (hl : lv_has ls 4 [(0, .ref b), (1, .ref (a 0)), (2, .ref (a 35)), (3, .int (nI i))]) (KK : ∀ (tx_length : Int32) (tx_bytes : Nat → Int32) (ro_pupils : Int32) (ro_mood : Int32) (ro_letters : Nat → Int32) (ro_rows : Nat → Int32) (ro_columns : Nat → Int32) (ro_tenths : Nat → Int32) (ro_needs : Nat → Int32) (ro_toldDares : Nat → Int32) (le_seed : Int64) (le_questions : Int32) (le_rightOnes : Int32) (le_wrongOnes : Int32) (le_isKept : Int32) (le_dares : Nat → Int32) (le_times : Nat → Int32) (ha_cells : Nat → Int64) (ch_pupils : Int32) (ch_rule : Int32) (ch_ranks : Nat → Int32) (ch_eligible : Nat → Int32) (ch_eligibleAndRight : Nat → Int32) (ch_cells : Nat → Int64) (s1_seed : Int64) (s1_questions : Int32) (s1_rightOnes : Int32) (s1_wrongOnes : Int32) (s1_isKept : Int32) (s1_dares : Nat → Int32) (s1_times : Nat → Int32) (s2_seed : Int64) (s2_questions : Int32) (s2_rightOnes : Int32) (s2_wrongOnes : Int32) (s2_isKept : Int32) (s2_dares : Nat → Int32) (s2_times : Nat → Int32) (ta_size : Int32) (ta_hands : Nat → Int32) (ta_ones : Nat → Int32) (ta_cells : Nat → Int64) (tr_waited : Int32) (tr_size : Int32) (tr_hands : Nat → Int32) (m_readMany : Int32) (m_pupils : Int32) (m_mood : Int32) (m_length : Int32) (m_at : Int32) (m_faultAt : Int32) (m_drawn : Int64) (m_questions : Int32) (m_rights : Int32) (m_wrongs : Int32) (m_tapes : Int32) (m_trials : Int32) (m_read : Nat → Int32) (m_pupil : Nat → Int32) (m_dares : Nat → Int32) (m_times : Nat → Int32) (m_text : Nat → Int32) (m_joint : Nat → Int64) (m_others : Nat → Int64) (m_tapeHands : Nat → Int32) (m_tapeTaken : Nat → Int32) (m_trialHands : Nat → Int32) (m_trialWaited : Nat → Int32) (m_isKept : Nat → Int32) (m_keptDares : Nat → Int32) (m_keptTimes : Nat → Int32) (m_keptDrawn : Nat → Int64) (m_keptLesson : Nat → Int32), Rel (i + 1) tx_length tx_bytes ro_pupils ro_mood ro_letters ro_rows ro_columns ro_tenths ro_needs ro_toldDares le_seed le_questions le_rightOnes le_wrongOnes le_dares le_times s1_seed s1_questions s1_rightOnes s1_wrongOnes s1_isKept s1_dares s1_times s2_seed s2_questions s2_rightOnes s2_wrongOnes s2_isKept s2_dares s2_times ta_size ta_hands ta_ones tr_waited tr_size tr_hands m_pupils m_mood m_length m_drawn m_questions m_rights m_wrongs m_tapes m_trials m_pupil m_dares m_times m_text m_tapeHands m_tapeTaken m_trialHands m_trialWaited m_isKept m_keptDares m_keptTimes m_keptDrawn m_keptLesson → ∀ (w : va_W) (H : Heap) (locs : List Loc), va_P D vwCl w H → va_D (fun q : Nat => s.heap.size ≤ q) w → va_S (fun q : Nat => s.heap.size ≤ q) s.heap H locs → wAll a cI cJ cZ w tx_length tx_bytes ro_pupils ro_mood ro_letters ro_rows ro_columns ro_tenths ro_needs ro_toldDares le_seed le_questions le_rightOnes le_wrongOnes le_isKept le_dares le_times ha_cells ch_pupils ch_rule ch_ranks ch_eligible ch_eligibleAndRight ch_cells s1_seed s1_questions s1_rightOnes s1_wrongOnes s1_isKept s1_dares s1_times s2_seed s2_questions s2_rightOnes s2_wrongOnes s2_isKept s2_dares s2_times ta_size ta_hands ta_ones ta_cells tr_waited tr_size tr_hands m_readMany m_pupils m_mood m_length m_at m_faultAt m_drawn m_questions m_rights m_wrongs m_tapes m_trials m_read m_pupil m_dares m_times m_text m_joint m_others m_tapeHands m_tapeTaken m_trialHands m_trialWaited m_isKept m_keptDares m_keptTimes m_keptDrawn m_keptLesson → ∀ ls : Array Slot, lv_has ls 4 [(0, .ref b), (1, .ref (a 0)), (2, .ref (a 35)), (3, .int (nI i))] → W p l e room_1 s m #[Value.ref b] below meth c H locs 52 1402 (lw_Z below #[Value.ref b] s) (F0 m 1535 ls [])) : W p l e room_1 s m #[Value.ref b] below meth c H locs 52 1402 (lw_Z below #[Value.ref b] s) (F0 m 973 ls []) := by
  obtain ⟨-, -, -, -, -, -, hX, hbl, -, -⟩ := C0
  obtain ⟨hx, hb, hr, hml, hown, hts, hlk, hK, hN⟩ := id X
  have hown : s.vm.findClass RL = some m.cls := hown
  have hbA : ¬ (fun q : Nat => s.heap.size ≤ q) b := Nat.not_le.mpr hbl
  obtain ⟨h0, h1, h2, h3, h4, h5, h6, h7, h8, h9, h10, h11, h12, h13, h14, h15, h16, h17, h18, h19, h20, h21, h22, h23, h24, h25, h26, h27, h28, h29, h30, h31, h32, h33, h34, h35, h36, h37, h38, h39, h40, h41, h42, h43, h44, h45, h46, h47, h48, h49, h50, h51⟩ := hw
  have i1 : vp_in (nI i + (1 : Int32)) L := by rw [show (1 : Int32) = nI 1 from rfl, nI_add]; exact vp_in_nI (by omega) (by omega)
  have i2 : vp_in (nI i + (2 : Int32)) L := by rw [show (2 : Int32) = nI 2 from rfl, nI_add]; exact vp_in_nI (by omega) (by omega)
  have i3 : vp_in (nI i + (3 : Int32)) L := by rw [show (3 : Int32) = nI 3 from rfl, nI_add]; exact vp_in_nI (by omega) (by omega)
  have i4 : vp_in (nI i + (4 : Int32)) L := by rw [show (4 : Int32) = nI 4 from rfl, nI_add]; exact vp_in_nI (by omega) (by omega)
  have i5 : vp_in (nI i + (5 : Int32)) L := by rw [show (5 : Int32) = nI 5 from rfl, nI_add]; exact vp_in_nI (by omega) (by omega)
  obtain ⟨u, v, hu, hv, he, hR2⟩ := P_lesson i (by omega) tx_length tx_bytes ro_pupils ro_mood ro_letters ro_rows ro_columns ro_tenths ro_needs ro_toldDares le_seed le_questions le_rightOnes le_wrongOnes le_isKept le_dares le_times ha_cells ch_pupils ch_rule ch_ranks ch_eligible ch_eligibleAndRight ch_cells s1_seed s1_questions s1_rightOnes s1_wrongOnes s1_isKept s1_dares s1_times s2_seed s2_questions s2_rightOnes s2_wrongOnes s2_isKept s2_dares s2_times ta_size ta_hands ta_ones ta_cells tr_waited tr_size tr_hands m_readMany m_pupils m_mood m_length m_at m_faultAt m_drawn m_questions m_rights m_wrongs m_tapes m_trials m_read m_pupil m_dares m_times m_text m_joint m_others m_tapeHands m_tapeTaken m_trialHands m_trialWaited m_isKept m_keptDares m_keptTimes m_keptDrawn m_keptLesson (xs (nI i + (1 : Int32)).toNatClampNeg)  hR
  refine lv_aload_n hx hb dL_law_973 rfl (lv_at hl 1 rfl) ?_
  refine lv_aload_n hx hb dL_law_974 rfl (lv_at hl 0 rfl) ?_
  refine lv_iload_n hx hb dL_law_975 rfl (lv_at hl 3 rfl) ?_
  refine lv_iconst (v := (1 : Int32)) hx hb dL_law_976 (by decide) ?_
  refine lv_iadd hx hb dL_law_977 ?_
  refine va_sld hx hb hX hbl hbA hS i1 dL_law_978 ?_
  refine rd_i (runV (As := [.int (xs (nI i + (1 : Int32)).toNatClampNeg)]) (rest := []) X cq_X8_lesson lk_L_103 (c_X8_lesson l D cI cJ cZ a ws0 ro_pupils ro_mood le_seed le_questions le_rightOnes le_wrongOnes le_isKept le_times (xs (nI i + (1 : Int32)).toNatClampNeg) u hu h0 h3 h10 h12) rfl rfl ⟨Nat.le_of_ble_eq_true rfl, Nat.le_of_ble_eq_true rfl⟩ hP h0 rfl rfl hl.1 rfl (Nat.le_of_ble_eq_true rfl) dL_law_979 ⟨Nat.le_of_ble_eq_true rfl, Nat.le_of_ble_eq_true rfl⟩) ?_
  refine lv_aload_n hx hb dL_law_982 rfl (lv_at hl 2 rfl) ?_
  refine lv_aload_n hx hb dL_law_983 rfl (lv_at hl 0 rfl) ?_
  refine lv_iload_n hx hb dL_law_984 rfl (lv_at hl 3 rfl) ?_
  refine lv_iconst (v := (1 : Int32)) hx hb dL_law_985 (by decide) ?_
  refine lv_iadd hx hb dL_law_986 ?_
  refine va_sld hx hb hX hbl hbA hS i1 dL_law_987 ?_
  refine rd_i (runV (As := [.int (xs (nI i + (1 : Int32)).toNatClampNeg)]) (rest := [.int u]) X cq_X9_lesson lk_L_106 (c_X9_lesson l D cI cJ cZ a ws0 m_readMany m_pupils m_mood m_length m_at m_faultAt m_drawn m_questions m_rights m_wrongs m_tapes m_trials m_times (xs (nI i + (1 : Int32)).toNatClampNeg) v hv h35 h39) rfl rfl ⟨Nat.le_of_ble_eq_true rfl, Nat.le_of_ble_eq_true rfl⟩ hP h35 rfl rfl hl.1 rfl (Nat.le_of_ble_eq_true rfl) dL_law_988 ⟨Nat.le_of_ble_eq_true rfl, Nat.le_of_ble_eq_true rfl⟩) ?_
  refine lv_icmp_eq (tgt := 1535) hx hb dL_law_991 (by decide) (fun _ => ?_) (fun q => absurd he q)
  exact KK tx_length tx_bytes ro_pupils ro_mood ro_letters ro_rows ro_columns ro_tenths ro_needs ro_toldDares le_seed le_questions le_rightOnes le_wrongOnes le_isKept le_dares le_times ha_cells ch_pupils ch_rule ch_ranks ch_eligible ch_eligibleAndRight ch_cells s1_seed s1_questions s1_rightOnes s1_wrongOnes s1_isKept s1_dares s1_times s2_seed s2_questions s2_rightOnes s2_wrongOnes s2_isKept s2_dares s2_times ta_size ta_hands ta_ones ta_cells tr_waited tr_size tr_hands m_readMany m_pupils m_mood m_length m_at m_faultAt m_drawn m_questions m_rights m_wrongs m_tapes m_trials m_read m_pupil m_dares m_times m_text m_joint m_others m_tapeHands m_tapeTaken m_trialHands m_trialWaited m_isKept m_keptDares m_keptTimes m_keptDrawn m_keptLesson hR2 _ _ _ hP hD hS ⟨h0, h1, h2, h3, h4, h5, h6, h7, h8, h9, h10, h11, h12, h13, h14, h15, h16, h17, h18, h19, h20, h21, h22, h23, h24, h25, h26, h27, h28, h29, h30, h31, h32, h33, h34, h35, h36, h37, h38, h39, h40, h41, h42, h43, h44, h45, h46, h47, h48, h49, h50, h51⟩ ls hl
set_option maxHeartbeats 4000000 in
set_option maxRecDepth 100000 in
theorem case_21 {p : Program} {l : Launch} {e : Env} {s : State} {m : MethodId} {below : List Frame} {meth : Method} {c : Code} {D : va_G} {cI cJ cZ : ClassId} {a : Nat → Nat} {b L : Nat} {xs : Nat → Int32} (C0 : lw_At p s m meth c b L xs) (X : Cx yL_law code 4 ret D cI cJ cZ p s m #[Value.ref b] meth c) (i : Nat) (hi : i + 5 < L) (hL : L ≤ 3072) (tx_length : Int32) (tx_bytes : Nat → Int32) (ro_pupils : Int32) (ro_mood : Int32) (ro_letters : Nat → Int32) (ro_rows : Nat → Int32) (ro_columns : Nat → Int32) (ro_tenths : Nat → Int32) (ro_needs : Nat → Int32) (ro_toldDares : Nat → Int32) (le_seed : Int64) (le_questions : Int32) (le_rightOnes : Int32) (le_wrongOnes : Int32) (le_isKept : Int32) (le_dares : Nat → Int32) (le_times : Nat → Int32) (ha_cells : Nat → Int64) (ch_pupils : Int32) (ch_rule : Int32) (ch_ranks : Nat → Int32) (ch_eligible : Nat → Int32) (ch_eligibleAndRight : Nat → Int32) (ch_cells : Nat → Int64) (s1_seed : Int64) (s1_questions : Int32) (s1_rightOnes : Int32) (s1_wrongOnes : Int32) (s1_isKept : Int32) (s1_dares : Nat → Int32) (s1_times : Nat → Int32) (s2_seed : Int64) (s2_questions : Int32) (s2_rightOnes : Int32) (s2_wrongOnes : Int32) (s2_isKept : Int32) (s2_dares : Nat → Int32) (s2_times : Nat → Int32) (ta_size : Int32) (ta_hands : Nat → Int32) (ta_ones : Nat → Int32) (ta_cells : Nat → Int64) (tr_waited : Int32) (tr_size : Int32) (tr_hands : Nat → Int32) (m_readMany : Int32) (m_pupils : Int32) (m_mood : Int32) (m_length : Int32) (m_at : Int32) (m_faultAt : Int32) (m_drawn : Int64) (m_questions : Int32) (m_rights : Int32) (m_wrongs : Int32) (m_tapes : Int32) (m_trials : Int32) (m_read : Nat → Int32) (m_pupil : Nat → Int32) (m_dares : Nat → Int32) (m_times : Nat → Int32) (m_text : Nat → Int32) (m_joint : Nat → Int64) (m_others : Nat → Int64) (m_tapeHands : Nat → Int32) (m_tapeTaken : Nat → Int32) (m_trialHands : Nat → Int32) (m_trialWaited : Nat → Int32) (m_isKept : Nat → Int32) (m_keptDares : Nat → Int32) (m_keptTimes : Nat → Int32) (m_keptDrawn : Nat → Int64) (m_keptLesson : Nat → Int32) (hR : Rel i tx_length tx_bytes ro_pupils ro_mood ro_letters ro_rows ro_columns ro_tenths ro_needs ro_toldDares le_seed le_questions le_rightOnes le_wrongOnes le_dares le_times s1_seed s1_questions s1_rightOnes s1_wrongOnes s1_isKept s1_dares s1_times s2_seed s2_questions s2_rightOnes s2_wrongOnes s2_isKept s2_dares s2_times ta_size ta_hands ta_ones tr_waited tr_size tr_hands m_pupils m_mood m_length m_drawn m_questions m_rights m_wrongs m_tapes m_trials m_pupil m_dares m_times m_text m_tapeHands m_tapeTaken m_trialHands m_trialWaited m_isKept m_keptDares m_keptTimes m_keptDrawn m_keptLesson) (ws0 : va_W) (H : Heap) (locs : List Loc) (hP : va_P D vwCl ws0 H) (hD : va_D (fun q : Nat => s.heap.size ≤ q) ws0) (hS : va_S (fun q : Nat => s.heap.size ≤ q) s.heap H locs) (hw : wAll a cI cJ cZ ws0 tx_length tx_bytes ro_pupils ro_mood ro_letters ro_rows ro_columns ro_tenths ro_needs ro_toldDares le_seed le_questions le_rightOnes le_wrongOnes le_isKept le_dares le_times ha_cells ch_pupils ch_rule ch_ranks ch_eligible ch_eligibleAndRight ch_cells s1_seed s1_questions s1_rightOnes s1_wrongOnes s1_isKept s1_dares s1_times s2_seed s2_questions s2_rightOnes s2_wrongOnes s2_isKept s2_dares s2_times ta_size ta_hands ta_ones ta_cells tr_waited tr_size tr_hands m_readMany m_pupils m_mood m_length m_at m_faultAt m_drawn m_questions m_rights m_wrongs m_tapes m_trials m_read m_pupil m_dares m_times m_text m_joint m_others m_tapeHands m_tapeTaken m_trialHands m_trialWaited m_isKept m_keptDares m_keptTimes m_keptDrawn m_keptLesson) (ls : Array Slot) (hl : lv_has ls 4 [(0, .ref b), (1, .ref (a 0)), (2, .ref (a 35)), (3, .int (nI i))]) (KK : ∀ (tx_length : Int32) (tx_bytes : Nat → Int32) (ro_pupils : Int32) (ro_mood : Int32) (ro_letters : Nat → Int32) (ro_rows : Nat → Int32) (ro_columns : Nat → Int32) (ro_tenths : Nat → Int32) (ro_needs : Nat → Int32) (ro_toldDares : Nat → Int32) (le_seed : Int64) (le_questions : Int32) (le_rightOnes : Int32) (le_wrongOnes : Int32) (le_isKept : Int32) (le_dares : Nat → Int32) (le_times : Nat → Int32) (ha_cells : Nat → Int64) (ch_pupils : Int32) (ch_rule : Int32) (ch_ranks : Nat → Int32) (ch_eligible : Nat → Int32) (ch_eligibleAndRight : Nat → Int32) (ch_cells : Nat → Int64) (s1_seed : Int64) (s1_questions : Int32) (s1_rightOnes : Int32) (s1_wrongOnes : Int32) (s1_isKept : Int32) (s1_dares : Nat → Int32) (s1_times : Nat → Int32) (s2_seed : Int64) (s2_questions : Int32) (s2_rightOnes : Int32) (s2_wrongOnes : Int32) (s2_isKept : Int32) (s2_dares : Nat → Int32) (s2_times : Nat → Int32) (ta_size : Int32) (ta_hands : Nat → Int32) (ta_ones : Nat → Int32) (ta_cells : Nat → Int64) (tr_waited : Int32) (tr_size : Int32) (tr_hands : Nat → Int32) (m_readMany : Int32) (m_pupils : Int32) (m_mood : Int32) (m_length : Int32) (m_at : Int32) (m_faultAt : Int32) (m_drawn : Int64) (m_questions : Int32) (m_rights : Int32) (m_wrongs : Int32) (m_tapes : Int32) (m_trials : Int32) (m_read : Nat → Int32) (m_pupil : Nat → Int32) (m_dares : Nat → Int32) (m_times : Nat → Int32) (m_text : Nat → Int32) (m_joint : Nat → Int64) (m_others : Nat → Int64) (m_tapeHands : Nat → Int32) (m_tapeTaken : Nat → Int32) (m_trialHands : Nat → Int32) (m_trialWaited : Nat → Int32) (m_isKept : Nat → Int32) (m_keptDares : Nat → Int32) (m_keptTimes : Nat → Int32) (m_keptDrawn : Nat → Int64) (m_keptLesson : Nat → Int32), Rel (i + 1) tx_length tx_bytes ro_pupils ro_mood ro_letters ro_rows ro_columns ro_tenths ro_needs ro_toldDares le_seed le_questions le_rightOnes le_wrongOnes le_dares le_times s1_seed s1_questions s1_rightOnes s1_wrongOnes s1_isKept s1_dares s1_times s2_seed s2_questions s2_rightOnes s2_wrongOnes s2_isKept s2_dares s2_times ta_size ta_hands ta_ones tr_waited tr_size tr_hands m_pupils m_mood m_length m_drawn m_questions m_rights m_wrongs m_tapes m_trials m_pupil m_dares m_times m_text m_tapeHands m_tapeTaken m_trialHands m_trialWaited m_isKept m_keptDares m_keptTimes m_keptDrawn m_keptLesson → ∀ (w : va_W) (H : Heap) (locs : List Loc), va_P D vwCl w H → va_D (fun q : Nat => s.heap.size ≤ q) w → va_S (fun q : Nat => s.heap.size ≤ q) s.heap H locs → wAll a cI cJ cZ w tx_length tx_bytes ro_pupils ro_mood ro_letters ro_rows ro_columns ro_tenths ro_needs ro_toldDares le_seed le_questions le_rightOnes le_wrongOnes le_isKept le_dares le_times ha_cells ch_pupils ch_rule ch_ranks ch_eligible ch_eligibleAndRight ch_cells s1_seed s1_questions s1_rightOnes s1_wrongOnes s1_isKept s1_dares s1_times s2_seed s2_questions s2_rightOnes s2_wrongOnes s2_isKept s2_dares s2_times ta_size ta_hands ta_ones ta_cells tr_waited tr_size tr_hands m_readMany m_pupils m_mood m_length m_at m_faultAt m_drawn m_questions m_rights m_wrongs m_tapes m_trials m_read m_pupil m_dares m_times m_text m_joint m_others m_tapeHands m_tapeTaken m_trialHands m_trialWaited m_isKept m_keptDares m_keptTimes m_keptDrawn m_keptLesson → ∀ ls : Array Slot, lv_has ls 4 [(0, .ref b), (1, .ref (a 0)), (2, .ref (a 35)), (3, .int (nI i))] → W p l e room_1 s m #[Value.ref b] below meth c H locs 52 1402 (lw_Z below #[Value.ref b] s) (F0 m 1535 ls [])) : W p l e room_1 s m #[Value.ref b] below meth c H locs 52 1402 (lw_Z below #[Value.ref b] s) (F0 m 996 ls []) := by
  obtain ⟨-, -, -, -, -, -, hX, hbl, -, -⟩ := C0
  obtain ⟨hx, hb, hr, hml, hown, hts, hlk, hK, hN⟩ := id X
  have hown : s.vm.findClass RL = some m.cls := hown
  have hbA : ¬ (fun q : Nat => s.heap.size ≤ q) b := Nat.not_le.mpr hbl
  obtain ⟨h0, h1, h2, h3, h4, h5, h6, h7, h8, h9, h10, h11, h12, h13, h14, h15, h16, h17, h18, h19, h20, h21, h22, h23, h24, h25, h26, h27, h28, h29, h30, h31, h32, h33, h34, h35, h36, h37, h38, h39, h40, h41, h42, h43, h44, h45, h46, h47, h48, h49, h50, h51⟩ := hw
  have i1 : vp_in (nI i + (1 : Int32)) L := by rw [show (1 : Int32) = nI 1 from rfl, nI_add]; exact vp_in_nI (by omega) (by omega)
  have i2 : vp_in (nI i + (2 : Int32)) L := by rw [show (2 : Int32) = nI 2 from rfl, nI_add]; exact vp_in_nI (by omega) (by omega)
  have i3 : vp_in (nI i + (3 : Int32)) L := by rw [show (3 : Int32) = nI 3 from rfl, nI_add]; exact vp_in_nI (by omega) (by omega)
  have i4 : vp_in (nI i + (4 : Int32)) L := by rw [show (4 : Int32) = nI 4 from rfl, nI_add]; exact vp_in_nI (by omega) (by omega)
  have i5 : vp_in (nI i + (5 : Int32)) L := by rw [show (5 : Int32) = nI 5 from rfl, nI_add]; exact vp_in_nI (by omega) (by omega)
  obtain ⟨u, v, hu, hv, he, hR2⟩ := P_tape i (by omega) tx_length tx_bytes ro_pupils ro_mood ro_letters ro_rows ro_columns ro_tenths ro_needs ro_toldDares le_seed le_questions le_rightOnes le_wrongOnes le_isKept le_dares le_times ha_cells ch_pupils ch_rule ch_ranks ch_eligible ch_eligibleAndRight ch_cells s1_seed s1_questions s1_rightOnes s1_wrongOnes s1_isKept s1_dares s1_times s2_seed s2_questions s2_rightOnes s2_wrongOnes s2_isKept s2_dares s2_times ta_size ta_hands ta_ones ta_cells tr_waited tr_size tr_hands m_readMany m_pupils m_mood m_length m_at m_faultAt m_drawn m_questions m_rights m_wrongs m_tapes m_trials m_read m_pupil m_dares m_times m_text m_joint m_others m_tapeHands m_tapeTaken m_trialHands m_trialWaited m_isKept m_keptDares m_keptTimes m_keptDrawn m_keptLesson (xs (nI i + (1 : Int32)).toNatClampNeg) (xs (nI i + (2 : Int32)).toNatClampNeg)  hR
  refine lv_aload_n hx hb dL_law_996 rfl (lv_at hl 1 rfl) ?_
  refine lv_aload_n hx hb dL_law_997 rfl (lv_at hl 0 rfl) ?_
  refine lv_iload_n hx hb dL_law_998 rfl (lv_at hl 3 rfl) ?_
  refine lv_iconst (v := (1 : Int32)) hx hb dL_law_999 (by decide) ?_
  refine lv_iadd hx hb dL_law_1000 ?_
  refine va_sld hx hb hX hbl hbA hS i1 dL_law_1001 ?_
  refine lv_aload_n hx hb dL_law_1002 rfl (lv_at hl 0 rfl) ?_
  refine lv_iload_n hx hb dL_law_1003 rfl (lv_at hl 3 rfl) ?_
  refine lv_iconst (v := (2 : Int32)) hx hb dL_law_1004 (by decide) ?_
  refine lv_iadd hx hb dL_law_1005 ?_
  refine va_sld hx hb hX hbl hbA hS i2 dL_law_1006 ?_
  refine wr_i (runV (As := [.int (xs (nI i + (1 : Int32)).toNatClampNeg), .int (xs (nI i + (2 : Int32)).toNatClampNeg)]) (rest := []) X cq_X8_tape lk_L_107 (c_X8_tape l D cI cJ cZ a ws0 (fun q : Nat => s.heap.size ≤ q) ta_size ta_hands ta_ones (xs (nI i + (1 : Int32)).toNatClampNeg) (xs (nI i + (2 : Int32)).toNatClampNeg) u hu h0 h28 h29 h30 hD) rfl rfl ⟨Nat.le_of_ble_eq_true rfl, Nat.le_of_ble_eq_true rfl⟩ hP h0 rfl rfl hl.1 rfl (Nat.le_of_ble_eq_true rfl) dL_law_1007 ⟨Nat.le_of_ble_eq_true rfl, Nat.le_of_ble_eq_true rfl⟩) hS (fun w1 H locs hP hD hk hB hS => ?_)
  obtain ⟨hB0, hB1, hB2⟩ := hB
  have h29 : w1[29]? = some (a 29, .inl (cI, 12, .inl u.2.1)) := hB0
  have h30 : w1[30]? = some (a 30, .inl (cI, 12, .inl u.2.2.1)) := hB1
  have h28 : w1[28]? = some (a 28, .inr (5, [.ref (a 29), .ref (a 30), .ref (a 31), .int u.2.2.2])) := hB2
  have h0 := (hk 0 (by decide)).trans h0
  have h1 := (hk 1 (by decide)).trans h1
  have h2 := (hk 2 (by decide)).trans h2
  have h3 := (hk 3 (by decide)).trans h3
  have h4 := (hk 4 (by decide)).trans h4
  have h5 := (hk 5 (by decide)).trans h5
  have h6 := (hk 6 (by decide)).trans h6
  have h7 := (hk 7 (by decide)).trans h7
  have h8 := (hk 8 (by decide)).trans h8
  have h9 := (hk 9 (by decide)).trans h9
  have h10 := (hk 10 (by decide)).trans h10
  have h11 := (hk 11 (by decide)).trans h11
  have h12 := (hk 12 (by decide)).trans h12
  have h13 := (hk 13 (by decide)).trans h13
  have h14 := (hk 14 (by decide)).trans h14
  have h15 := (hk 15 (by decide)).trans h15
  have h16 := (hk 16 (by decide)).trans h16
  have h17 := (hk 17 (by decide)).trans h17
  have h18 := (hk 18 (by decide)).trans h18
  have h19 := (hk 19 (by decide)).trans h19
  have h20 := (hk 20 (by decide)).trans h20
  have h21 := (hk 21 (by decide)).trans h21
  have h22 := (hk 22 (by decide)).trans h22
  have h23 := (hk 23 (by decide)).trans h23
  have h24 := (hk 24 (by decide)).trans h24
  have h25 := (hk 25 (by decide)).trans h25
  have h26 := (hk 26 (by decide)).trans h26
  have h27 := (hk 27 (by decide)).trans h27
  have h31 := (hk 31 (by decide)).trans h31
  have h32 := (hk 32 (by decide)).trans h32
  have h33 := (hk 33 (by decide)).trans h33
  have h34 := (hk 34 (by decide)).trans h34
  have h35 := (hk 35 (by decide)).trans h35
  have h36 := (hk 36 (by decide)).trans h36
  have h37 := (hk 37 (by decide)).trans h37
  have h38 := (hk 38 (by decide)).trans h38
  have h39 := (hk 39 (by decide)).trans h39
  have h40 := (hk 40 (by decide)).trans h40
  have h41 := (hk 41 (by decide)).trans h41
  have h42 := (hk 42 (by decide)).trans h42
  have h43 := (hk 43 (by decide)).trans h43
  have h44 := (hk 44 (by decide)).trans h44
  have h45 := (hk 45 (by decide)).trans h45
  have h46 := (hk 46 (by decide)).trans h46
  have h47 := (hk 47 (by decide)).trans h47
  have h48 := (hk 48 (by decide)).trans h48
  have h49 := (hk 49 (by decide)).trans h49
  have h50 := (hk 50 (by decide)).trans h50
  have h51 := (hk 51 (by decide)).trans h51
  refine lv_aload_n hx hb dL_law_1010 rfl (lv_at hl 2 rfl) ?_
  refine lv_aload_n hx hb dL_law_1011 rfl (lv_at hl 0 rfl) ?_
  refine lv_iload_n hx hb dL_law_1012 rfl (lv_at hl 3 rfl) ?_
  refine lv_iconst (v := (1 : Int32)) hx hb dL_law_1013 (by decide) ?_
  refine lv_iadd hx hb dL_law_1014 ?_
  refine va_sld hx hb hX hbl hbA hS i1 dL_law_1015 ?_
  refine lv_aload_n hx hb dL_law_1016 rfl (lv_at hl 0 rfl) ?_
  refine lv_iload_n hx hb dL_law_1017 rfl (lv_at hl 3 rfl) ?_
  refine lv_iconst (v := (2 : Int32)) hx hb dL_law_1018 (by decide) ?_
  refine lv_iadd hx hb dL_law_1019 ?_
  refine va_sld hx hb hX hbl hbA hS i2 dL_law_1020 ?_
  refine wr_i (runV (As := [.int (xs (nI i + (1 : Int32)).toNatClampNeg), .int (xs (nI i + (2 : Int32)).toNatClampNeg)]) (rest := [.int u.1]) X cq_X9_tape lk_L_110 (c_X9_tape l D cI cJ cZ a w1 (fun q : Nat => s.heap.size ≤ q) m_readMany m_pupils m_mood m_length m_at m_faultAt m_drawn m_questions m_rights m_wrongs m_tapes m_trials m_tapeHands m_tapeTaken (xs (nI i + (1 : Int32)).toNatClampNeg) (xs (nI i + (2 : Int32)).toNatClampNeg) v hv h35 h43 h44 hD) rfl rfl ⟨Nat.le_of_ble_eq_true rfl, Nat.le_of_ble_eq_true rfl⟩ hP h35 rfl rfl hl.1 rfl (Nat.le_of_ble_eq_true rfl) dL_law_1021 ⟨Nat.le_of_ble_eq_true rfl, Nat.le_of_ble_eq_true rfl⟩) hS (fun w2 H locs hP hD hk hB hS => ?_)
  obtain ⟨hB0, hB1, hB2⟩ := hB
  have h43 : w2[43]? = some (a 43, .inl (cI, 12, .inl v.2.1)) := hB0
  have h44 : w2[44]? = some (a 44, .inl (cI, 12, .inl v.2.2.1)) := hB1
  have h35 : w2[35]? = some (a 35, .inr (9, [.ref (a 36), .int m_readMany, .ref (a 37), .int m_pupils, .ref (a 38), .ref (a 39), .int m_mood, .ref (a 40), .int m_length, .int m_at, .int m_faultAt, .ref (a 41), .ref (a 42), .long m_drawn, .int m_questions, .int m_rights, .int m_wrongs, .int v.2.2.2, .ref (a 43), .ref (a 44), .int m_trials, .ref (a 45), .ref (a 46), .ref (a 47), .ref (a 48), .ref (a 49), .ref (a 50), .ref (a 51)])) := hB2
  have h0 := (hk 0 (by decide)).trans h0
  have h1 := (hk 1 (by decide)).trans h1
  have h2 := (hk 2 (by decide)).trans h2
  have h3 := (hk 3 (by decide)).trans h3
  have h4 := (hk 4 (by decide)).trans h4
  have h5 := (hk 5 (by decide)).trans h5
  have h6 := (hk 6 (by decide)).trans h6
  have h7 := (hk 7 (by decide)).trans h7
  have h8 := (hk 8 (by decide)).trans h8
  have h9 := (hk 9 (by decide)).trans h9
  have h10 := (hk 10 (by decide)).trans h10
  have h11 := (hk 11 (by decide)).trans h11
  have h12 := (hk 12 (by decide)).trans h12
  have h13 := (hk 13 (by decide)).trans h13
  have h14 := (hk 14 (by decide)).trans h14
  have h15 := (hk 15 (by decide)).trans h15
  have h16 := (hk 16 (by decide)).trans h16
  have h17 := (hk 17 (by decide)).trans h17
  have h18 := (hk 18 (by decide)).trans h18
  have h19 := (hk 19 (by decide)).trans h19
  have h20 := (hk 20 (by decide)).trans h20
  have h21 := (hk 21 (by decide)).trans h21
  have h22 := (hk 22 (by decide)).trans h22
  have h23 := (hk 23 (by decide)).trans h23
  have h24 := (hk 24 (by decide)).trans h24
  have h25 := (hk 25 (by decide)).trans h25
  have h26 := (hk 26 (by decide)).trans h26
  have h27 := (hk 27 (by decide)).trans h27
  have h28 := (hk 28 (by decide)).trans h28
  have h29 := (hk 29 (by decide)).trans h29
  have h30 := (hk 30 (by decide)).trans h30
  have h31 := (hk 31 (by decide)).trans h31
  have h32 := (hk 32 (by decide)).trans h32
  have h33 := (hk 33 (by decide)).trans h33
  have h34 := (hk 34 (by decide)).trans h34
  have h36 := (hk 36 (by decide)).trans h36
  have h37 := (hk 37 (by decide)).trans h37
  have h38 := (hk 38 (by decide)).trans h38
  have h39 := (hk 39 (by decide)).trans h39
  have h40 := (hk 40 (by decide)).trans h40
  have h41 := (hk 41 (by decide)).trans h41
  have h42 := (hk 42 (by decide)).trans h42
  have h45 := (hk 45 (by decide)).trans h45
  have h46 := (hk 46 (by decide)).trans h46
  have h47 := (hk 47 (by decide)).trans h47
  have h48 := (hk 48 (by decide)).trans h48
  have h49 := (hk 49 (by decide)).trans h49
  have h50 := (hk 50 (by decide)).trans h50
  have h51 := (hk 51 (by decide)).trans h51
  refine lv_icmp_eq (tgt := 1535) hx hb dL_law_1024 (by decide) (fun _ => ?_) (fun q => absurd he q)
  exact KK tx_length tx_bytes ro_pupils ro_mood ro_letters ro_rows ro_columns ro_tenths ro_needs ro_toldDares le_seed le_questions le_rightOnes le_wrongOnes le_isKept le_dares le_times ha_cells ch_pupils ch_rule ch_ranks ch_eligible ch_eligibleAndRight ch_cells s1_seed s1_questions s1_rightOnes s1_wrongOnes s1_isKept s1_dares s1_times s2_seed s2_questions s2_rightOnes s2_wrongOnes s2_isKept s2_dares s2_times u.2.2.2 u.2.1 u.2.2.1 ta_cells tr_waited tr_size tr_hands m_readMany m_pupils m_mood m_length m_at m_faultAt m_drawn m_questions m_rights m_wrongs v.2.2.2 m_trials m_read m_pupil m_dares m_times m_text m_joint m_others v.2.1 v.2.2.1 m_trialHands m_trialWaited m_isKept m_keptDares m_keptTimes m_keptDrawn m_keptLesson hR2 _ _ _ hP hD hS ⟨h0, h1, h2, h3, h4, h5, h6, h7, h8, h9, h10, h11, h12, h13, h14, h15, h16, h17, h18, h19, h20, h21, h22, h23, h24, h25, h26, h27, h28, h29, h30, h31, h32, h33, h34, h35, h36, h37, h38, h39, h40, h41, h42, h43, h44, h45, h46, h47, h48, h49, h50, h51⟩ ls hl
set_option maxHeartbeats 4000000 in
set_option maxRecDepth 100000 in
theorem case_22 {p : Program} {l : Launch} {e : Env} {s : State} {m : MethodId} {below : List Frame} {meth : Method} {c : Code} {D : va_G} {cI cJ cZ : ClassId} {a : Nat → Nat} {b L : Nat} {xs : Nat → Int32} (C0 : lw_At p s m meth c b L xs) (X : Cx yL_law code 4 ret D cI cJ cZ p s m #[Value.ref b] meth c) (i : Nat) (hi : i + 5 < L) (hL : L ≤ 3072) (tx_length : Int32) (tx_bytes : Nat → Int32) (ro_pupils : Int32) (ro_mood : Int32) (ro_letters : Nat → Int32) (ro_rows : Nat → Int32) (ro_columns : Nat → Int32) (ro_tenths : Nat → Int32) (ro_needs : Nat → Int32) (ro_toldDares : Nat → Int32) (le_seed : Int64) (le_questions : Int32) (le_rightOnes : Int32) (le_wrongOnes : Int32) (le_isKept : Int32) (le_dares : Nat → Int32) (le_times : Nat → Int32) (ha_cells : Nat → Int64) (ch_pupils : Int32) (ch_rule : Int32) (ch_ranks : Nat → Int32) (ch_eligible : Nat → Int32) (ch_eligibleAndRight : Nat → Int32) (ch_cells : Nat → Int64) (s1_seed : Int64) (s1_questions : Int32) (s1_rightOnes : Int32) (s1_wrongOnes : Int32) (s1_isKept : Int32) (s1_dares : Nat → Int32) (s1_times : Nat → Int32) (s2_seed : Int64) (s2_questions : Int32) (s2_rightOnes : Int32) (s2_wrongOnes : Int32) (s2_isKept : Int32) (s2_dares : Nat → Int32) (s2_times : Nat → Int32) (ta_size : Int32) (ta_hands : Nat → Int32) (ta_ones : Nat → Int32) (ta_cells : Nat → Int64) (tr_waited : Int32) (tr_size : Int32) (tr_hands : Nat → Int32) (m_readMany : Int32) (m_pupils : Int32) (m_mood : Int32) (m_length : Int32) (m_at : Int32) (m_faultAt : Int32) (m_drawn : Int64) (m_questions : Int32) (m_rights : Int32) (m_wrongs : Int32) (m_tapes : Int32) (m_trials : Int32) (m_read : Nat → Int32) (m_pupil : Nat → Int32) (m_dares : Nat → Int32) (m_times : Nat → Int32) (m_text : Nat → Int32) (m_joint : Nat → Int64) (m_others : Nat → Int64) (m_tapeHands : Nat → Int32) (m_tapeTaken : Nat → Int32) (m_trialHands : Nat → Int32) (m_trialWaited : Nat → Int32) (m_isKept : Nat → Int32) (m_keptDares : Nat → Int32) (m_keptTimes : Nat → Int32) (m_keptDrawn : Nat → Int64) (m_keptLesson : Nat → Int32) (hR : Rel i tx_length tx_bytes ro_pupils ro_mood ro_letters ro_rows ro_columns ro_tenths ro_needs ro_toldDares le_seed le_questions le_rightOnes le_wrongOnes le_dares le_times s1_seed s1_questions s1_rightOnes s1_wrongOnes s1_isKept s1_dares s1_times s2_seed s2_questions s2_rightOnes s2_wrongOnes s2_isKept s2_dares s2_times ta_size ta_hands ta_ones tr_waited tr_size tr_hands m_pupils m_mood m_length m_drawn m_questions m_rights m_wrongs m_tapes m_trials m_pupil m_dares m_times m_text m_tapeHands m_tapeTaken m_trialHands m_trialWaited m_isKept m_keptDares m_keptTimes m_keptDrawn m_keptLesson) (ws0 : va_W) (H : Heap) (locs : List Loc) (hP : va_P D vwCl ws0 H) (hD : va_D (fun q : Nat => s.heap.size ≤ q) ws0) (hS : va_S (fun q : Nat => s.heap.size ≤ q) s.heap H locs) (hw : wAll a cI cJ cZ ws0 tx_length tx_bytes ro_pupils ro_mood ro_letters ro_rows ro_columns ro_tenths ro_needs ro_toldDares le_seed le_questions le_rightOnes le_wrongOnes le_isKept le_dares le_times ha_cells ch_pupils ch_rule ch_ranks ch_eligible ch_eligibleAndRight ch_cells s1_seed s1_questions s1_rightOnes s1_wrongOnes s1_isKept s1_dares s1_times s2_seed s2_questions s2_rightOnes s2_wrongOnes s2_isKept s2_dares s2_times ta_size ta_hands ta_ones ta_cells tr_waited tr_size tr_hands m_readMany m_pupils m_mood m_length m_at m_faultAt m_drawn m_questions m_rights m_wrongs m_tapes m_trials m_read m_pupil m_dares m_times m_text m_joint m_others m_tapeHands m_tapeTaken m_trialHands m_trialWaited m_isKept m_keptDares m_keptTimes m_keptDrawn m_keptLesson) (ls : Array Slot) (hl : lv_has ls 4 [(0, .ref b), (1, .ref (a 0)), (2, .ref (a 35)), (3, .int (nI i))]) (KK : ∀ (tx_length : Int32) (tx_bytes : Nat → Int32) (ro_pupils : Int32) (ro_mood : Int32) (ro_letters : Nat → Int32) (ro_rows : Nat → Int32) (ro_columns : Nat → Int32) (ro_tenths : Nat → Int32) (ro_needs : Nat → Int32) (ro_toldDares : Nat → Int32) (le_seed : Int64) (le_questions : Int32) (le_rightOnes : Int32) (le_wrongOnes : Int32) (le_isKept : Int32) (le_dares : Nat → Int32) (le_times : Nat → Int32) (ha_cells : Nat → Int64) (ch_pupils : Int32) (ch_rule : Int32) (ch_ranks : Nat → Int32) (ch_eligible : Nat → Int32) (ch_eligibleAndRight : Nat → Int32) (ch_cells : Nat → Int64) (s1_seed : Int64) (s1_questions : Int32) (s1_rightOnes : Int32) (s1_wrongOnes : Int32) (s1_isKept : Int32) (s1_dares : Nat → Int32) (s1_times : Nat → Int32) (s2_seed : Int64) (s2_questions : Int32) (s2_rightOnes : Int32) (s2_wrongOnes : Int32) (s2_isKept : Int32) (s2_dares : Nat → Int32) (s2_times : Nat → Int32) (ta_size : Int32) (ta_hands : Nat → Int32) (ta_ones : Nat → Int32) (ta_cells : Nat → Int64) (tr_waited : Int32) (tr_size : Int32) (tr_hands : Nat → Int32) (m_readMany : Int32) (m_pupils : Int32) (m_mood : Int32) (m_length : Int32) (m_at : Int32) (m_faultAt : Int32) (m_drawn : Int64) (m_questions : Int32) (m_rights : Int32) (m_wrongs : Int32) (m_tapes : Int32) (m_trials : Int32) (m_read : Nat → Int32) (m_pupil : Nat → Int32) (m_dares : Nat → Int32) (m_times : Nat → Int32) (m_text : Nat → Int32) (m_joint : Nat → Int64) (m_others : Nat → Int64) (m_tapeHands : Nat → Int32) (m_tapeTaken : Nat → Int32) (m_trialHands : Nat → Int32) (m_trialWaited : Nat → Int32) (m_isKept : Nat → Int32) (m_keptDares : Nat → Int32) (m_keptTimes : Nat → Int32) (m_keptDrawn : Nat → Int64) (m_keptLesson : Nat → Int32), Rel (i + 1) tx_length tx_bytes ro_pupils ro_mood ro_letters ro_rows ro_columns ro_tenths ro_needs ro_toldDares le_seed le_questions le_rightOnes le_wrongOnes le_dares le_times s1_seed s1_questions s1_rightOnes s1_wrongOnes s1_isKept s1_dares s1_times s2_seed s2_questions s2_rightOnes s2_wrongOnes s2_isKept s2_dares s2_times ta_size ta_hands ta_ones tr_waited tr_size tr_hands m_pupils m_mood m_length m_drawn m_questions m_rights m_wrongs m_tapes m_trials m_pupil m_dares m_times m_text m_tapeHands m_tapeTaken m_trialHands m_trialWaited m_isKept m_keptDares m_keptTimes m_keptDrawn m_keptLesson → ∀ (w : va_W) (H : Heap) (locs : List Loc), va_P D vwCl w H → va_D (fun q : Nat => s.heap.size ≤ q) w → va_S (fun q : Nat => s.heap.size ≤ q) s.heap H locs → wAll a cI cJ cZ w tx_length tx_bytes ro_pupils ro_mood ro_letters ro_rows ro_columns ro_tenths ro_needs ro_toldDares le_seed le_questions le_rightOnes le_wrongOnes le_isKept le_dares le_times ha_cells ch_pupils ch_rule ch_ranks ch_eligible ch_eligibleAndRight ch_cells s1_seed s1_questions s1_rightOnes s1_wrongOnes s1_isKept s1_dares s1_times s2_seed s2_questions s2_rightOnes s2_wrongOnes s2_isKept s2_dares s2_times ta_size ta_hands ta_ones ta_cells tr_waited tr_size tr_hands m_readMany m_pupils m_mood m_length m_at m_faultAt m_drawn m_questions m_rights m_wrongs m_tapes m_trials m_read m_pupil m_dares m_times m_text m_joint m_others m_tapeHands m_tapeTaken m_trialHands m_trialWaited m_isKept m_keptDares m_keptTimes m_keptDrawn m_keptLesson → ∀ ls : Array Slot, lv_has ls 4 [(0, .ref b), (1, .ref (a 0)), (2, .ref (a 35)), (3, .int (nI i))] → W p l e room_1 s m #[Value.ref b] below meth c H locs 52 1402 (lw_Z below #[Value.ref b] s) (F0 m 1535 ls [])) : W p l e room_1 s m #[Value.ref b] below meth c H locs 52 1402 (lw_Z below #[Value.ref b] s) (F0 m 1029 ls []) := by
  obtain ⟨-, -, -, -, -, -, hX, hbl, -, -⟩ := C0
  obtain ⟨hx, hb, hr, hml, hown, hts, hlk, hK, hN⟩ := id X
  have hown : s.vm.findClass RL = some m.cls := hown
  have hbA : ¬ (fun q : Nat => s.heap.size ≤ q) b := Nat.not_le.mpr hbl
  obtain ⟨h0, h1, h2, h3, h4, h5, h6, h7, h8, h9, h10, h11, h12, h13, h14, h15, h16, h17, h18, h19, h20, h21, h22, h23, h24, h25, h26, h27, h28, h29, h30, h31, h32, h33, h34, h35, h36, h37, h38, h39, h40, h41, h42, h43, h44, h45, h46, h47, h48, h49, h50, h51⟩ := hw
  have i1 : vp_in (nI i + (1 : Int32)) L := by rw [show (1 : Int32) = nI 1 from rfl, nI_add]; exact vp_in_nI (by omega) (by omega)
  have i2 : vp_in (nI i + (2 : Int32)) L := by rw [show (2 : Int32) = nI 2 from rfl, nI_add]; exact vp_in_nI (by omega) (by omega)
  have i3 : vp_in (nI i + (3 : Int32)) L := by rw [show (3 : Int32) = nI 3 from rfl, nI_add]; exact vp_in_nI (by omega) (by omega)
  have i4 : vp_in (nI i + (4 : Int32)) L := by rw [show (4 : Int32) = nI 4 from rfl, nI_add]; exact vp_in_nI (by omega) (by omega)
  have i5 : vp_in (nI i + (5 : Int32)) L := by rw [show (5 : Int32) = nI 5 from rfl, nI_add]; exact vp_in_nI (by omega) (by omega)
  obtain ⟨u, v, hu, hv, he, hR2⟩ := P_untape i (by omega) tx_length tx_bytes ro_pupils ro_mood ro_letters ro_rows ro_columns ro_tenths ro_needs ro_toldDares le_seed le_questions le_rightOnes le_wrongOnes le_isKept le_dares le_times ha_cells ch_pupils ch_rule ch_ranks ch_eligible ch_eligibleAndRight ch_cells s1_seed s1_questions s1_rightOnes s1_wrongOnes s1_isKept s1_dares s1_times s2_seed s2_questions s2_rightOnes s2_wrongOnes s2_isKept s2_dares s2_times ta_size ta_hands ta_ones ta_cells tr_waited tr_size tr_hands m_readMany m_pupils m_mood m_length m_at m_faultAt m_drawn m_questions m_rights m_wrongs m_tapes m_trials m_read m_pupil m_dares m_times m_text m_joint m_others m_tapeHands m_tapeTaken m_trialHands m_trialWaited m_isKept m_keptDares m_keptTimes m_keptDrawn m_keptLesson   hR
  refine lv_aload_n hx hb dL_law_1029 rfl (lv_at hl 1 rfl) ?_
  refine wr_i (runV (As := []) (rest := []) X cq_X8_untape lk_L_111 (c_X8_untape l D cI cJ cZ a ws0 (fun q : Nat => s.heap.size ≤ q) ta_size u hu h0 h28 hD) rfl rfl ⟨Nat.le_of_ble_eq_true rfl, Nat.le_of_ble_eq_true rfl⟩ hP h0 rfl rfl hl.1 rfl (Nat.le_of_ble_eq_true rfl) dL_law_1030 ⟨Nat.le_of_ble_eq_true rfl, Nat.le_of_ble_eq_true rfl⟩) hS (fun w1 H locs hP hD hk hB hS => ?_)
  have h28 : w1[28]? = some (a 28, .inr (5, [.ref (a 29), .ref (a 30), .ref (a 31), .int u.2])) := hB
  have h0 := (hk 0 (by decide)).trans h0
  have h1 := (hk 1 (by decide)).trans h1
  have h2 := (hk 2 (by decide)).trans h2
  have h3 := (hk 3 (by decide)).trans h3
  have h4 := (hk 4 (by decide)).trans h4
  have h5 := (hk 5 (by decide)).trans h5
  have h6 := (hk 6 (by decide)).trans h6
  have h7 := (hk 7 (by decide)).trans h7
  have h8 := (hk 8 (by decide)).trans h8
  have h9 := (hk 9 (by decide)).trans h9
  have h10 := (hk 10 (by decide)).trans h10
  have h11 := (hk 11 (by decide)).trans h11
  have h12 := (hk 12 (by decide)).trans h12
  have h13 := (hk 13 (by decide)).trans h13
  have h14 := (hk 14 (by decide)).trans h14
  have h15 := (hk 15 (by decide)).trans h15
  have h16 := (hk 16 (by decide)).trans h16
  have h17 := (hk 17 (by decide)).trans h17
  have h18 := (hk 18 (by decide)).trans h18
  have h19 := (hk 19 (by decide)).trans h19
  have h20 := (hk 20 (by decide)).trans h20
  have h21 := (hk 21 (by decide)).trans h21
  have h22 := (hk 22 (by decide)).trans h22
  have h23 := (hk 23 (by decide)).trans h23
  have h24 := (hk 24 (by decide)).trans h24
  have h25 := (hk 25 (by decide)).trans h25
  have h26 := (hk 26 (by decide)).trans h26
  have h27 := (hk 27 (by decide)).trans h27
  have h29 := (hk 29 (by decide)).trans h29
  have h30 := (hk 30 (by decide)).trans h30
  have h31 := (hk 31 (by decide)).trans h31
  have h32 := (hk 32 (by decide)).trans h32
  have h33 := (hk 33 (by decide)).trans h33
  have h34 := (hk 34 (by decide)).trans h34
  have h35 := (hk 35 (by decide)).trans h35
  have h36 := (hk 36 (by decide)).trans h36
  have h37 := (hk 37 (by decide)).trans h37
  have h38 := (hk 38 (by decide)).trans h38
  have h39 := (hk 39 (by decide)).trans h39
  have h40 := (hk 40 (by decide)).trans h40
  have h41 := (hk 41 (by decide)).trans h41
  have h42 := (hk 42 (by decide)).trans h42
  have h43 := (hk 43 (by decide)).trans h43
  have h44 := (hk 44 (by decide)).trans h44
  have h45 := (hk 45 (by decide)).trans h45
  have h46 := (hk 46 (by decide)).trans h46
  have h47 := (hk 47 (by decide)).trans h47
  have h48 := (hk 48 (by decide)).trans h48
  have h49 := (hk 49 (by decide)).trans h49
  have h50 := (hk 50 (by decide)).trans h50
  have h51 := (hk 51 (by decide)).trans h51
  refine lv_aload_n hx hb dL_law_1033 rfl (lv_at hl 2 rfl) ?_
  refine wr_i (runV (As := []) (rest := [.int u.1]) X cq_X9_untape lk_L_114 (c_X9_untape l D cI cJ cZ a w1 (fun q : Nat => s.heap.size ≤ q) m_readMany m_pupils m_mood m_length m_at m_faultAt m_drawn m_questions m_rights m_wrongs m_tapes m_trials v hv h35 hD) rfl rfl ⟨Nat.le_of_ble_eq_true rfl, Nat.le_of_ble_eq_true rfl⟩ hP h35 rfl rfl hl.1 rfl (Nat.le_of_ble_eq_true rfl) dL_law_1034 ⟨Nat.le_of_ble_eq_true rfl, Nat.le_of_ble_eq_true rfl⟩) hS (fun w2 H locs hP hD hk hB hS => ?_)
  have h35 : w2[35]? = some (a 35, .inr (9, [.ref (a 36), .int m_readMany, .ref (a 37), .int m_pupils, .ref (a 38), .ref (a 39), .int m_mood, .ref (a 40), .int m_length, .int m_at, .int m_faultAt, .ref (a 41), .ref (a 42), .long m_drawn, .int m_questions, .int m_rights, .int m_wrongs, .int v.2, .ref (a 43), .ref (a 44), .int m_trials, .ref (a 45), .ref (a 46), .ref (a 47), .ref (a 48), .ref (a 49), .ref (a 50), .ref (a 51)])) := hB
  have h0 := (hk 0 (by decide)).trans h0
  have h1 := (hk 1 (by decide)).trans h1
  have h2 := (hk 2 (by decide)).trans h2
  have h3 := (hk 3 (by decide)).trans h3
  have h4 := (hk 4 (by decide)).trans h4
  have h5 := (hk 5 (by decide)).trans h5
  have h6 := (hk 6 (by decide)).trans h6
  have h7 := (hk 7 (by decide)).trans h7
  have h8 := (hk 8 (by decide)).trans h8
  have h9 := (hk 9 (by decide)).trans h9
  have h10 := (hk 10 (by decide)).trans h10
  have h11 := (hk 11 (by decide)).trans h11
  have h12 := (hk 12 (by decide)).trans h12
  have h13 := (hk 13 (by decide)).trans h13
  have h14 := (hk 14 (by decide)).trans h14
  have h15 := (hk 15 (by decide)).trans h15
  have h16 := (hk 16 (by decide)).trans h16
  have h17 := (hk 17 (by decide)).trans h17
  have h18 := (hk 18 (by decide)).trans h18
  have h19 := (hk 19 (by decide)).trans h19
  have h20 := (hk 20 (by decide)).trans h20
  have h21 := (hk 21 (by decide)).trans h21
  have h22 := (hk 22 (by decide)).trans h22
  have h23 := (hk 23 (by decide)).trans h23
  have h24 := (hk 24 (by decide)).trans h24
  have h25 := (hk 25 (by decide)).trans h25
  have h26 := (hk 26 (by decide)).trans h26
  have h27 := (hk 27 (by decide)).trans h27
  have h28 := (hk 28 (by decide)).trans h28
  have h29 := (hk 29 (by decide)).trans h29
  have h30 := (hk 30 (by decide)).trans h30
  have h31 := (hk 31 (by decide)).trans h31
  have h32 := (hk 32 (by decide)).trans h32
  have h33 := (hk 33 (by decide)).trans h33
  have h34 := (hk 34 (by decide)).trans h34
  have h36 := (hk 36 (by decide)).trans h36
  have h37 := (hk 37 (by decide)).trans h37
  have h38 := (hk 38 (by decide)).trans h38
  have h39 := (hk 39 (by decide)).trans h39
  have h40 := (hk 40 (by decide)).trans h40
  have h41 := (hk 41 (by decide)).trans h41
  have h42 := (hk 42 (by decide)).trans h42
  have h43 := (hk 43 (by decide)).trans h43
  have h44 := (hk 44 (by decide)).trans h44
  have h45 := (hk 45 (by decide)).trans h45
  have h46 := (hk 46 (by decide)).trans h46
  have h47 := (hk 47 (by decide)).trans h47
  have h48 := (hk 48 (by decide)).trans h48
  have h49 := (hk 49 (by decide)).trans h49
  have h50 := (hk 50 (by decide)).trans h50
  have h51 := (hk 51 (by decide)).trans h51
  refine lv_icmp_eq (tgt := 1535) hx hb dL_law_1037 (by decide) (fun _ => ?_) (fun q => absurd he q)
  exact KK tx_length tx_bytes ro_pupils ro_mood ro_letters ro_rows ro_columns ro_tenths ro_needs ro_toldDares le_seed le_questions le_rightOnes le_wrongOnes le_isKept le_dares le_times ha_cells ch_pupils ch_rule ch_ranks ch_eligible ch_eligibleAndRight ch_cells s1_seed s1_questions s1_rightOnes s1_wrongOnes s1_isKept s1_dares s1_times s2_seed s2_questions s2_rightOnes s2_wrongOnes s2_isKept s2_dares s2_times u.2 ta_hands ta_ones ta_cells tr_waited tr_size tr_hands m_readMany m_pupils m_mood m_length m_at m_faultAt m_drawn m_questions m_rights m_wrongs v.2 m_trials m_read m_pupil m_dares m_times m_text m_joint m_others m_tapeHands m_tapeTaken m_trialHands m_trialWaited m_isKept m_keptDares m_keptTimes m_keptDrawn m_keptLesson hR2 _ _ _ hP hD hS ⟨h0, h1, h2, h3, h4, h5, h6, h7, h8, h9, h10, h11, h12, h13, h14, h15, h16, h17, h18, h19, h20, h21, h22, h23, h24, h25, h26, h27, h28, h29, h30, h31, h32, h33, h34, h35, h36, h37, h38, h39, h40, h41, h42, h43, h44, h45, h46, h47, h48, h49, h50, h51⟩ ls hl
set_option maxHeartbeats 4000000 in
set_option maxRecDepth 100000 in
theorem case_23 {p : Program} {l : Launch} {e : Env} {s : State} {m : MethodId} {below : List Frame} {meth : Method} {c : Code} {D : va_G} {cI cJ cZ : ClassId} {a : Nat → Nat} {b L : Nat} {xs : Nat → Int32} (C0 : lw_At p s m meth c b L xs) (X : Cx yL_law code 4 ret D cI cJ cZ p s m #[Value.ref b] meth c) (i : Nat) (hi : i + 5 < L) (hL : L ≤ 3072) (tx_length : Int32) (tx_bytes : Nat → Int32) (ro_pupils : Int32) (ro_mood : Int32) (ro_letters : Nat → Int32) (ro_rows : Nat → Int32) (ro_columns : Nat → Int32) (ro_tenths : Nat → Int32) (ro_needs : Nat → Int32) (ro_toldDares : Nat → Int32) (le_seed : Int64) (le_questions : Int32) (le_rightOnes : Int32) (le_wrongOnes : Int32) (le_isKept : Int32) (le_dares : Nat → Int32) (le_times : Nat → Int32) (ha_cells : Nat → Int64) (ch_pupils : Int32) (ch_rule : Int32) (ch_ranks : Nat → Int32) (ch_eligible : Nat → Int32) (ch_eligibleAndRight : Nat → Int32) (ch_cells : Nat → Int64) (s1_seed : Int64) (s1_questions : Int32) (s1_rightOnes : Int32) (s1_wrongOnes : Int32) (s1_isKept : Int32) (s1_dares : Nat → Int32) (s1_times : Nat → Int32) (s2_seed : Int64) (s2_questions : Int32) (s2_rightOnes : Int32) (s2_wrongOnes : Int32) (s2_isKept : Int32) (s2_dares : Nat → Int32) (s2_times : Nat → Int32) (ta_size : Int32) (ta_hands : Nat → Int32) (ta_ones : Nat → Int32) (ta_cells : Nat → Int64) (tr_waited : Int32) (tr_size : Int32) (tr_hands : Nat → Int32) (m_readMany : Int32) (m_pupils : Int32) (m_mood : Int32) (m_length : Int32) (m_at : Int32) (m_faultAt : Int32) (m_drawn : Int64) (m_questions : Int32) (m_rights : Int32) (m_wrongs : Int32) (m_tapes : Int32) (m_trials : Int32) (m_read : Nat → Int32) (m_pupil : Nat → Int32) (m_dares : Nat → Int32) (m_times : Nat → Int32) (m_text : Nat → Int32) (m_joint : Nat → Int64) (m_others : Nat → Int64) (m_tapeHands : Nat → Int32) (m_tapeTaken : Nat → Int32) (m_trialHands : Nat → Int32) (m_trialWaited : Nat → Int32) (m_isKept : Nat → Int32) (m_keptDares : Nat → Int32) (m_keptTimes : Nat → Int32) (m_keptDrawn : Nat → Int64) (m_keptLesson : Nat → Int32) (hR : Rel i tx_length tx_bytes ro_pupils ro_mood ro_letters ro_rows ro_columns ro_tenths ro_needs ro_toldDares le_seed le_questions le_rightOnes le_wrongOnes le_dares le_times s1_seed s1_questions s1_rightOnes s1_wrongOnes s1_isKept s1_dares s1_times s2_seed s2_questions s2_rightOnes s2_wrongOnes s2_isKept s2_dares s2_times ta_size ta_hands ta_ones tr_waited tr_size tr_hands m_pupils m_mood m_length m_drawn m_questions m_rights m_wrongs m_tapes m_trials m_pupil m_dares m_times m_text m_tapeHands m_tapeTaken m_trialHands m_trialWaited m_isKept m_keptDares m_keptTimes m_keptDrawn m_keptLesson) (ws0 : va_W) (H : Heap) (locs : List Loc) (hP : va_P D vwCl ws0 H) (hD : va_D (fun q : Nat => s.heap.size ≤ q) ws0) (hS : va_S (fun q : Nat => s.heap.size ≤ q) s.heap H locs) (hw : wAll a cI cJ cZ ws0 tx_length tx_bytes ro_pupils ro_mood ro_letters ro_rows ro_columns ro_tenths ro_needs ro_toldDares le_seed le_questions le_rightOnes le_wrongOnes le_isKept le_dares le_times ha_cells ch_pupils ch_rule ch_ranks ch_eligible ch_eligibleAndRight ch_cells s1_seed s1_questions s1_rightOnes s1_wrongOnes s1_isKept s1_dares s1_times s2_seed s2_questions s2_rightOnes s2_wrongOnes s2_isKept s2_dares s2_times ta_size ta_hands ta_ones ta_cells tr_waited tr_size tr_hands m_readMany m_pupils m_mood m_length m_at m_faultAt m_drawn m_questions m_rights m_wrongs m_tapes m_trials m_read m_pupil m_dares m_times m_text m_joint m_others m_tapeHands m_tapeTaken m_trialHands m_trialWaited m_isKept m_keptDares m_keptTimes m_keptDrawn m_keptLesson) (ls : Array Slot) (hl : lv_has ls 4 [(0, .ref b), (1, .ref (a 0)), (2, .ref (a 35)), (3, .int (nI i))]) (KK : ∀ (tx_length : Int32) (tx_bytes : Nat → Int32) (ro_pupils : Int32) (ro_mood : Int32) (ro_letters : Nat → Int32) (ro_rows : Nat → Int32) (ro_columns : Nat → Int32) (ro_tenths : Nat → Int32) (ro_needs : Nat → Int32) (ro_toldDares : Nat → Int32) (le_seed : Int64) (le_questions : Int32) (le_rightOnes : Int32) (le_wrongOnes : Int32) (le_isKept : Int32) (le_dares : Nat → Int32) (le_times : Nat → Int32) (ha_cells : Nat → Int64) (ch_pupils : Int32) (ch_rule : Int32) (ch_ranks : Nat → Int32) (ch_eligible : Nat → Int32) (ch_eligibleAndRight : Nat → Int32) (ch_cells : Nat → Int64) (s1_seed : Int64) (s1_questions : Int32) (s1_rightOnes : Int32) (s1_wrongOnes : Int32) (s1_isKept : Int32) (s1_dares : Nat → Int32) (s1_times : Nat → Int32) (s2_seed : Int64) (s2_questions : Int32) (s2_rightOnes : Int32) (s2_wrongOnes : Int32) (s2_isKept : Int32) (s2_dares : Nat → Int32) (s2_times : Nat → Int32) (ta_size : Int32) (ta_hands : Nat → Int32) (ta_ones : Nat → Int32) (ta_cells : Nat → Int64) (tr_waited : Int32) (tr_size : Int32) (tr_hands : Nat → Int32) (m_readMany : Int32) (m_pupils : Int32) (m_mood : Int32) (m_length : Int32) (m_at : Int32) (m_faultAt : Int32) (m_drawn : Int64) (m_questions : Int32) (m_rights : Int32) (m_wrongs : Int32) (m_tapes : Int32) (m_trials : Int32) (m_read : Nat → Int32) (m_pupil : Nat → Int32) (m_dares : Nat → Int32) (m_times : Nat → Int32) (m_text : Nat → Int32) (m_joint : Nat → Int64) (m_others : Nat → Int64) (m_tapeHands : Nat → Int32) (m_tapeTaken : Nat → Int32) (m_trialHands : Nat → Int32) (m_trialWaited : Nat → Int32) (m_isKept : Nat → Int32) (m_keptDares : Nat → Int32) (m_keptTimes : Nat → Int32) (m_keptDrawn : Nat → Int64) (m_keptLesson : Nat → Int32), Rel (i + 1) tx_length tx_bytes ro_pupils ro_mood ro_letters ro_rows ro_columns ro_tenths ro_needs ro_toldDares le_seed le_questions le_rightOnes le_wrongOnes le_dares le_times s1_seed s1_questions s1_rightOnes s1_wrongOnes s1_isKept s1_dares s1_times s2_seed s2_questions s2_rightOnes s2_wrongOnes s2_isKept s2_dares s2_times ta_size ta_hands ta_ones tr_waited tr_size tr_hands m_pupils m_mood m_length m_drawn m_questions m_rights m_wrongs m_tapes m_trials m_pupil m_dares m_times m_text m_tapeHands m_tapeTaken m_trialHands m_trialWaited m_isKept m_keptDares m_keptTimes m_keptDrawn m_keptLesson → ∀ (w : va_W) (H : Heap) (locs : List Loc), va_P D vwCl w H → va_D (fun q : Nat => s.heap.size ≤ q) w → va_S (fun q : Nat => s.heap.size ≤ q) s.heap H locs → wAll a cI cJ cZ w tx_length tx_bytes ro_pupils ro_mood ro_letters ro_rows ro_columns ro_tenths ro_needs ro_toldDares le_seed le_questions le_rightOnes le_wrongOnes le_isKept le_dares le_times ha_cells ch_pupils ch_rule ch_ranks ch_eligible ch_eligibleAndRight ch_cells s1_seed s1_questions s1_rightOnes s1_wrongOnes s1_isKept s1_dares s1_times s2_seed s2_questions s2_rightOnes s2_wrongOnes s2_isKept s2_dares s2_times ta_size ta_hands ta_ones ta_cells tr_waited tr_size tr_hands m_readMany m_pupils m_mood m_length m_at m_faultAt m_drawn m_questions m_rights m_wrongs m_tapes m_trials m_read m_pupil m_dares m_times m_text m_joint m_others m_tapeHands m_tapeTaken m_trialHands m_trialWaited m_isKept m_keptDares m_keptTimes m_keptDrawn m_keptLesson → ∀ ls : Array Slot, lv_has ls 4 [(0, .ref b), (1, .ref (a 0)), (2, .ref (a 35)), (3, .int (nI i))] → W p l e room_1 s m #[Value.ref b] below meth c H locs 52 1402 (lw_Z below #[Value.ref b] s) (F0 m 1535 ls [])) : W p l e room_1 s m #[Value.ref b] below meth c H locs 52 1402 (lw_Z below #[Value.ref b] s) (F0 m 1042 ls []) := by
  obtain ⟨-, -, -, -, -, -, hX, hbl, -, -⟩ := C0
  obtain ⟨hx, hb, hr, hml, hown, hts, hlk, hK, hN⟩ := id X
  have hown : s.vm.findClass RL = some m.cls := hown
  have hbA : ¬ (fun q : Nat => s.heap.size ≤ q) b := Nat.not_le.mpr hbl
  obtain ⟨h0, h1, h2, h3, h4, h5, h6, h7, h8, h9, h10, h11, h12, h13, h14, h15, h16, h17, h18, h19, h20, h21, h22, h23, h24, h25, h26, h27, h28, h29, h30, h31, h32, h33, h34, h35, h36, h37, h38, h39, h40, h41, h42, h43, h44, h45, h46, h47, h48, h49, h50, h51⟩ := hw
  have i1 : vp_in (nI i + (1 : Int32)) L := by rw [show (1 : Int32) = nI 1 from rfl, nI_add]; exact vp_in_nI (by omega) (by omega)
  have i2 : vp_in (nI i + (2 : Int32)) L := by rw [show (2 : Int32) = nI 2 from rfl, nI_add]; exact vp_in_nI (by omega) (by omega)
  have i3 : vp_in (nI i + (3 : Int32)) L := by rw [show (3 : Int32) = nI 3 from rfl, nI_add]; exact vp_in_nI (by omega) (by omega)
  have i4 : vp_in (nI i + (4 : Int32)) L := by rw [show (4 : Int32) = nI 4 from rfl, nI_add]; exact vp_in_nI (by omega) (by omega)
  have i5 : vp_in (nI i + (5 : Int32)) L := by rw [show (5 : Int32) = nI 5 from rfl, nI_add]; exact vp_in_nI (by omega) (by omega)
  obtain ⟨u, v, hu, hv, he, hR2⟩ := P_came i (by omega) tx_length tx_bytes ro_pupils ro_mood ro_letters ro_rows ro_columns ro_tenths ro_needs ro_toldDares le_seed le_questions le_rightOnes le_wrongOnes le_isKept le_dares le_times ha_cells ch_pupils ch_rule ch_ranks ch_eligible ch_eligibleAndRight ch_cells s1_seed s1_questions s1_rightOnes s1_wrongOnes s1_isKept s1_dares s1_times s2_seed s2_questions s2_rightOnes s2_wrongOnes s2_isKept s2_dares s2_times ta_size ta_hands ta_ones ta_cells tr_waited tr_size tr_hands m_readMany m_pupils m_mood m_length m_at m_faultAt m_drawn m_questions m_rights m_wrongs m_tapes m_trials m_read m_pupil m_dares m_times m_text m_joint m_others m_tapeHands m_tapeTaken m_trialHands m_trialWaited m_isKept m_keptDares m_keptTimes m_keptDrawn m_keptLesson (xs (nI i + (1 : Int32)).toNatClampNeg)  hR
  refine lv_aload_n hx hb dL_law_1042 rfl (lv_at hl 1 rfl) ?_
  refine lv_aload_n hx hb dL_law_1043 rfl (lv_at hl 0 rfl) ?_
  refine lv_iload_n hx hb dL_law_1044 rfl (lv_at hl 3 rfl) ?_
  refine lv_iconst (v := (1 : Int32)) hx hb dL_law_1045 (by decide) ?_
  refine lv_iadd hx hb dL_law_1046 ?_
  refine va_sld hx hb hX hbl hbA hS i1 dL_law_1047 ?_
  refine rd_i (runV (As := [.int (xs (nI i + (1 : Int32)).toNatClampNeg)]) (rest := []) X cq_X8_came lk_L_115 (c_X8_came l D cI cJ cZ a ws0 ta_size ta_ones (xs (nI i + (1 : Int32)).toNatClampNeg) u hu h0 h28 h30) rfl rfl ⟨Nat.le_of_ble_eq_true rfl, Nat.le_of_ble_eq_true rfl⟩ hP h0 rfl rfl hl.1 rfl (Nat.le_of_ble_eq_true rfl) dL_law_1048 ⟨Nat.le_of_ble_eq_true rfl, Nat.le_of_ble_eq_true rfl⟩) ?_
  refine lv_aload_n hx hb dL_law_1051 rfl (lv_at hl 2 rfl) ?_
  refine lv_aload_n hx hb dL_law_1052 rfl (lv_at hl 0 rfl) ?_
  refine lv_iload_n hx hb dL_law_1053 rfl (lv_at hl 3 rfl) ?_
  refine lv_iconst (v := (1 : Int32)) hx hb dL_law_1054 (by decide) ?_
  refine lv_iadd hx hb dL_law_1055 ?_
  refine va_sld hx hb hX hbl hbA hS i1 dL_law_1056 ?_
  refine rd_i (runV (As := [.int (xs (nI i + (1 : Int32)).toNatClampNeg)]) (rest := [.int u]) X cq_X9_came lk_L_118 (c_X9_came l D cI cJ cZ a ws0 m_readMany m_pupils m_mood m_length m_at m_faultAt m_drawn m_questions m_rights m_wrongs m_tapes m_trials m_tapeTaken (xs (nI i + (1 : Int32)).toNatClampNeg) v hv h35 h44) rfl rfl ⟨Nat.le_of_ble_eq_true rfl, Nat.le_of_ble_eq_true rfl⟩ hP h35 rfl rfl hl.1 rfl (Nat.le_of_ble_eq_true rfl) dL_law_1057 ⟨Nat.le_of_ble_eq_true rfl, Nat.le_of_ble_eq_true rfl⟩) ?_
  refine lv_icmp_eq (tgt := 1535) hx hb dL_law_1060 (by decide) (fun _ => ?_) (fun q => absurd he q)
  exact KK tx_length tx_bytes ro_pupils ro_mood ro_letters ro_rows ro_columns ro_tenths ro_needs ro_toldDares le_seed le_questions le_rightOnes le_wrongOnes le_isKept le_dares le_times ha_cells ch_pupils ch_rule ch_ranks ch_eligible ch_eligibleAndRight ch_cells s1_seed s1_questions s1_rightOnes s1_wrongOnes s1_isKept s1_dares s1_times s2_seed s2_questions s2_rightOnes s2_wrongOnes s2_isKept s2_dares s2_times ta_size ta_hands ta_ones ta_cells tr_waited tr_size tr_hands m_readMany m_pupils m_mood m_length m_at m_faultAt m_drawn m_questions m_rights m_wrongs m_tapes m_trials m_read m_pupil m_dares m_times m_text m_joint m_others m_tapeHands m_tapeTaken m_trialHands m_trialWaited m_isKept m_keptDares m_keptTimes m_keptDrawn m_keptLesson hR2 _ _ _ hP hD hS ⟨h0, h1, h2, h3, h4, h5, h6, h7, h8, h9, h10, h11, h12, h13, h14, h15, h16, h17, h18, h19, h20, h21, h22, h23, h24, h25, h26, h27, h28, h29, h30, h31, h32, h33, h34, h35, h36, h37, h38, h39, h40, h41, h42, h43, h44, h45, h46, h47, h48, h49, h50, h51⟩ ls hl
set_option maxHeartbeats 4000000 in
set_option maxRecDepth 100000 in
theorem case_24 {p : Program} {l : Launch} {e : Env} {s : State} {m : MethodId} {below : List Frame} {meth : Method} {c : Code} {D : va_G} {cI cJ cZ : ClassId} {a : Nat → Nat} {b L : Nat} {xs : Nat → Int32} (C0 : lw_At p s m meth c b L xs) (X : Cx yL_law code 4 ret D cI cJ cZ p s m #[Value.ref b] meth c) (i : Nat) (hi : i + 5 < L) (hL : L ≤ 3072) (tx_length : Int32) (tx_bytes : Nat → Int32) (ro_pupils : Int32) (ro_mood : Int32) (ro_letters : Nat → Int32) (ro_rows : Nat → Int32) (ro_columns : Nat → Int32) (ro_tenths : Nat → Int32) (ro_needs : Nat → Int32) (ro_toldDares : Nat → Int32) (le_seed : Int64) (le_questions : Int32) (le_rightOnes : Int32) (le_wrongOnes : Int32) (le_isKept : Int32) (le_dares : Nat → Int32) (le_times : Nat → Int32) (ha_cells : Nat → Int64) (ch_pupils : Int32) (ch_rule : Int32) (ch_ranks : Nat → Int32) (ch_eligible : Nat → Int32) (ch_eligibleAndRight : Nat → Int32) (ch_cells : Nat → Int64) (s1_seed : Int64) (s1_questions : Int32) (s1_rightOnes : Int32) (s1_wrongOnes : Int32) (s1_isKept : Int32) (s1_dares : Nat → Int32) (s1_times : Nat → Int32) (s2_seed : Int64) (s2_questions : Int32) (s2_rightOnes : Int32) (s2_wrongOnes : Int32) (s2_isKept : Int32) (s2_dares : Nat → Int32) (s2_times : Nat → Int32) (ta_size : Int32) (ta_hands : Nat → Int32) (ta_ones : Nat → Int32) (ta_cells : Nat → Int64) (tr_waited : Int32) (tr_size : Int32) (tr_hands : Nat → Int32) (m_readMany : Int32) (m_pupils : Int32) (m_mood : Int32) (m_length : Int32) (m_at : Int32) (m_faultAt : Int32) (m_drawn : Int64) (m_questions : Int32) (m_rights : Int32) (m_wrongs : Int32) (m_tapes : Int32) (m_trials : Int32) (m_read : Nat → Int32) (m_pupil : Nat → Int32) (m_dares : Nat → Int32) (m_times : Nat → Int32) (m_text : Nat → Int32) (m_joint : Nat → Int64) (m_others : Nat → Int64) (m_tapeHands : Nat → Int32) (m_tapeTaken : Nat → Int32) (m_trialHands : Nat → Int32) (m_trialWaited : Nat → Int32) (m_isKept : Nat → Int32) (m_keptDares : Nat → Int32) (m_keptTimes : Nat → Int32) (m_keptDrawn : Nat → Int64) (m_keptLesson : Nat → Int32) (hR : Rel i tx_length tx_bytes ro_pupils ro_mood ro_letters ro_rows ro_columns ro_tenths ro_needs ro_toldDares le_seed le_questions le_rightOnes le_wrongOnes le_dares le_times s1_seed s1_questions s1_rightOnes s1_wrongOnes s1_isKept s1_dares s1_times s2_seed s2_questions s2_rightOnes s2_wrongOnes s2_isKept s2_dares s2_times ta_size ta_hands ta_ones tr_waited tr_size tr_hands m_pupils m_mood m_length m_drawn m_questions m_rights m_wrongs m_tapes m_trials m_pupil m_dares m_times m_text m_tapeHands m_tapeTaken m_trialHands m_trialWaited m_isKept m_keptDares m_keptTimes m_keptDrawn m_keptLesson) (ws0 : va_W) (H : Heap) (locs : List Loc) (hP : va_P D vwCl ws0 H) (hD : va_D (fun q : Nat => s.heap.size ≤ q) ws0) (hS : va_S (fun q : Nat => s.heap.size ≤ q) s.heap H locs) (hw : wAll a cI cJ cZ ws0 tx_length tx_bytes ro_pupils ro_mood ro_letters ro_rows ro_columns ro_tenths ro_needs ro_toldDares le_seed le_questions le_rightOnes le_wrongOnes le_isKept le_dares le_times ha_cells ch_pupils ch_rule ch_ranks ch_eligible ch_eligibleAndRight ch_cells s1_seed s1_questions s1_rightOnes s1_wrongOnes s1_isKept s1_dares s1_times s2_seed s2_questions s2_rightOnes s2_wrongOnes s2_isKept s2_dares s2_times ta_size ta_hands ta_ones ta_cells tr_waited tr_size tr_hands m_readMany m_pupils m_mood m_length m_at m_faultAt m_drawn m_questions m_rights m_wrongs m_tapes m_trials m_read m_pupil m_dares m_times m_text m_joint m_others m_tapeHands m_tapeTaken m_trialHands m_trialWaited m_isKept m_keptDares m_keptTimes m_keptDrawn m_keptLesson) (ls : Array Slot) (hl : lv_has ls 4 [(0, .ref b), (1, .ref (a 0)), (2, .ref (a 35)), (3, .int (nI i))]) (KK : ∀ (tx_length : Int32) (tx_bytes : Nat → Int32) (ro_pupils : Int32) (ro_mood : Int32) (ro_letters : Nat → Int32) (ro_rows : Nat → Int32) (ro_columns : Nat → Int32) (ro_tenths : Nat → Int32) (ro_needs : Nat → Int32) (ro_toldDares : Nat → Int32) (le_seed : Int64) (le_questions : Int32) (le_rightOnes : Int32) (le_wrongOnes : Int32) (le_isKept : Int32) (le_dares : Nat → Int32) (le_times : Nat → Int32) (ha_cells : Nat → Int64) (ch_pupils : Int32) (ch_rule : Int32) (ch_ranks : Nat → Int32) (ch_eligible : Nat → Int32) (ch_eligibleAndRight : Nat → Int32) (ch_cells : Nat → Int64) (s1_seed : Int64) (s1_questions : Int32) (s1_rightOnes : Int32) (s1_wrongOnes : Int32) (s1_isKept : Int32) (s1_dares : Nat → Int32) (s1_times : Nat → Int32) (s2_seed : Int64) (s2_questions : Int32) (s2_rightOnes : Int32) (s2_wrongOnes : Int32) (s2_isKept : Int32) (s2_dares : Nat → Int32) (s2_times : Nat → Int32) (ta_size : Int32) (ta_hands : Nat → Int32) (ta_ones : Nat → Int32) (ta_cells : Nat → Int64) (tr_waited : Int32) (tr_size : Int32) (tr_hands : Nat → Int32) (m_readMany : Int32) (m_pupils : Int32) (m_mood : Int32) (m_length : Int32) (m_at : Int32) (m_faultAt : Int32) (m_drawn : Int64) (m_questions : Int32) (m_rights : Int32) (m_wrongs : Int32) (m_tapes : Int32) (m_trials : Int32) (m_read : Nat → Int32) (m_pupil : Nat → Int32) (m_dares : Nat → Int32) (m_times : Nat → Int32) (m_text : Nat → Int32) (m_joint : Nat → Int64) (m_others : Nat → Int64) (m_tapeHands : Nat → Int32) (m_tapeTaken : Nat → Int32) (m_trialHands : Nat → Int32) (m_trialWaited : Nat → Int32) (m_isKept : Nat → Int32) (m_keptDares : Nat → Int32) (m_keptTimes : Nat → Int32) (m_keptDrawn : Nat → Int64) (m_keptLesson : Nat → Int32), Rel (i + 1) tx_length tx_bytes ro_pupils ro_mood ro_letters ro_rows ro_columns ro_tenths ro_needs ro_toldDares le_seed le_questions le_rightOnes le_wrongOnes le_dares le_times s1_seed s1_questions s1_rightOnes s1_wrongOnes s1_isKept s1_dares s1_times s2_seed s2_questions s2_rightOnes s2_wrongOnes s2_isKept s2_dares s2_times ta_size ta_hands ta_ones tr_waited tr_size tr_hands m_pupils m_mood m_length m_drawn m_questions m_rights m_wrongs m_tapes m_trials m_pupil m_dares m_times m_text m_tapeHands m_tapeTaken m_trialHands m_trialWaited m_isKept m_keptDares m_keptTimes m_keptDrawn m_keptLesson → ∀ (w : va_W) (H : Heap) (locs : List Loc), va_P D vwCl w H → va_D (fun q : Nat => s.heap.size ≤ q) w → va_S (fun q : Nat => s.heap.size ≤ q) s.heap H locs → wAll a cI cJ cZ w tx_length tx_bytes ro_pupils ro_mood ro_letters ro_rows ro_columns ro_tenths ro_needs ro_toldDares le_seed le_questions le_rightOnes le_wrongOnes le_isKept le_dares le_times ha_cells ch_pupils ch_rule ch_ranks ch_eligible ch_eligibleAndRight ch_cells s1_seed s1_questions s1_rightOnes s1_wrongOnes s1_isKept s1_dares s1_times s2_seed s2_questions s2_rightOnes s2_wrongOnes s2_isKept s2_dares s2_times ta_size ta_hands ta_ones ta_cells tr_waited tr_size tr_hands m_readMany m_pupils m_mood m_length m_at m_faultAt m_drawn m_questions m_rights m_wrongs m_tapes m_trials m_read m_pupil m_dares m_times m_text m_joint m_others m_tapeHands m_tapeTaken m_trialHands m_trialWaited m_isKept m_keptDares m_keptTimes m_keptDrawn m_keptLesson → ∀ ls : Array Slot, lv_has ls 4 [(0, .ref b), (1, .ref (a 0)), (2, .ref (a 35)), (3, .int (nI i))] → W p l e room_1 s m #[Value.ref b] below meth c H locs 52 1402 (lw_Z below #[Value.ref b] s) (F0 m 1535 ls [])) : W p l e room_1 s m #[Value.ref b] below meth c H locs 52 1402 (lw_Z below #[Value.ref b] s) (F0 m 1065 ls []) := by
  obtain ⟨-, -, -, -, -, -, hX, hbl, -, -⟩ := C0
  obtain ⟨hx, hb, hr, hml, hown, hts, hlk, hK, hN⟩ := id X
  have hown : s.vm.findClass RL = some m.cls := hown
  have hbA : ¬ (fun q : Nat => s.heap.size ≤ q) b := Nat.not_le.mpr hbl
  obtain ⟨h0, h1, h2, h3, h4, h5, h6, h7, h8, h9, h10, h11, h12, h13, h14, h15, h16, h17, h18, h19, h20, h21, h22, h23, h24, h25, h26, h27, h28, h29, h30, h31, h32, h33, h34, h35, h36, h37, h38, h39, h40, h41, h42, h43, h44, h45, h46, h47, h48, h49, h50, h51⟩ := hw
  have i1 : vp_in (nI i + (1 : Int32)) L := by rw [show (1 : Int32) = nI 1 from rfl, nI_add]; exact vp_in_nI (by omega) (by omega)
  have i2 : vp_in (nI i + (2 : Int32)) L := by rw [show (2 : Int32) = nI 2 from rfl, nI_add]; exact vp_in_nI (by omega) (by omega)
  have i3 : vp_in (nI i + (3 : Int32)) L := by rw [show (3 : Int32) = nI 3 from rfl, nI_add]; exact vp_in_nI (by omega) (by omega)
  have i4 : vp_in (nI i + (4 : Int32)) L := by rw [show (4 : Int32) = nI 4 from rfl, nI_add]; exact vp_in_nI (by omega) (by omega)
  have i5 : vp_in (nI i + (5 : Int32)) L := by rw [show (5 : Int32) = nI 5 from rfl, nI_add]; exact vp_in_nI (by omega) (by omega)
  by_cases hz : xs (nI i + (2 : Int32)).toNatClampNeg = 0
  · obtain ⟨u, v, hu, hv, he, hR2⟩ := P_due i (by omega) tx_length tx_bytes ro_pupils ro_mood ro_letters ro_rows ro_columns ro_tenths ro_needs ro_toldDares le_seed le_questions le_rightOnes le_wrongOnes le_isKept le_dares le_times ha_cells ch_pupils ch_rule ch_ranks ch_eligible ch_eligibleAndRight ch_cells s1_seed s1_questions s1_rightOnes s1_wrongOnes s1_isKept s1_dares s1_times s2_seed s2_questions s2_rightOnes s2_wrongOnes s2_isKept s2_dares s2_times ta_size ta_hands ta_ones ta_cells tr_waited tr_size tr_hands m_readMany m_pupils m_mood m_length m_at m_faultAt m_drawn m_questions m_rights m_wrongs m_tapes m_trials m_read m_pupil m_dares m_times m_text m_joint m_others m_tapeHands m_tapeTaken m_trialHands m_trialWaited m_isKept m_keptDares m_keptTimes m_keptDrawn m_keptLesson (xs (nI i + (1 : Int32)).toNatClampNeg) (0 : Int32) (by decide) hR
    refine lv_aload_n hx hb dL_law_1065 rfl (lv_at hl 1 rfl) ?_
    refine lv_aload_n hx hb dL_law_1066 rfl (lv_at hl 0 rfl) ?_
    refine lv_iload_n hx hb dL_law_1067 rfl (lv_at hl 3 rfl) ?_
    refine lv_iconst (v := (1 : Int32)) hx hb dL_law_1068 (by decide) ?_
    refine lv_iadd hx hb dL_law_1069 ?_
    refine va_sld hx hb hX hbl hbA hS i1 dL_law_1070 ?_
    refine lv_aload_n hx hb dL_law_1071 rfl (lv_at hl 0 rfl) ?_
    refine lv_iload_n hx hb dL_law_1072 rfl (lv_at hl 3 rfl) ?_
    refine lv_iconst (v := (2 : Int32)) hx hb dL_law_1073 (by decide) ?_
    refine lv_iadd hx hb dL_law_1074 ?_
    refine va_sld hx hb hX hbl hbA hS i2 dL_law_1075 ?_
    refine lv_if_eq (tgt := 1083) hx hb dL_law_1076 (by decide) (fun _ => ?_) (fun q => absurd hz q)
    refine lv_iconst (v := (0 : Int32)) hx hb dL_law_1083 (by decide) ?_
    refine rd_l (runV (As := [.int (xs (nI i + (1 : Int32)).toNatClampNeg), .int (0 : Int32)]) (rest := []) X cq_X8_due lk_L_119 (c_X8_due l D cI cJ cZ a ws0 ta_size ta_hands (xs (nI i + (1 : Int32)).toNatClampNeg) (0 : Int32) u hu h0 h28 h29) rfl rfl ⟨Nat.le_of_ble_eq_true rfl, Nat.le_of_ble_eq_true rfl⟩ hP h0 rfl rfl hl.1 rfl (Nat.le_of_ble_eq_true rfl) dL_law_1084 ⟨Nat.le_of_ble_eq_true rfl, Nat.le_of_ble_eq_true rfl⟩) ?_
    refine lv_aload_n hx hb dL_law_1087 rfl (lv_at hl 2 rfl) ?_
    refine lv_aload_n hx hb dL_law_1088 rfl (lv_at hl 0 rfl) ?_
    refine lv_iload_n hx hb dL_law_1089 rfl (lv_at hl 3 rfl) ?_
    refine lv_iconst (v := (1 : Int32)) hx hb dL_law_1090 (by decide) ?_
    refine lv_iadd hx hb dL_law_1091 ?_
    refine va_sld hx hb hX hbl hbA hS i1 dL_law_1092 ?_
    refine lv_aload_n hx hb dL_law_1093 rfl (lv_at hl 0 rfl) ?_
    refine lv_iload_n hx hb dL_law_1094 rfl (lv_at hl 3 rfl) ?_
    refine lv_iconst (v := (2 : Int32)) hx hb dL_law_1095 (by decide) ?_
    refine lv_iadd hx hb dL_law_1096 ?_
    refine va_sld hx hb hX hbl hbA hS i2 dL_law_1097 ?_
    refine lv_if_eq (tgt := 1105) hx hb dL_law_1098 (by decide) (fun _ => ?_) (fun q => absurd hz q)
    refine lv_iconst (v := (0 : Int32)) hx hb dL_law_1105 (by decide) ?_
    refine rd_l (runV (As := [.int (xs (nI i + (1 : Int32)).toNatClampNeg), .int (0 : Int32)]) (rest := [.long u]) X cq_X9_due lk_L_123 (c_X9_due l D cI cJ cZ a ws0 m_readMany m_pupils m_mood m_length m_at m_faultAt m_drawn m_questions m_rights m_wrongs m_tapes m_trials m_tapeHands (xs (nI i + (1 : Int32)).toNatClampNeg) (0 : Int32) v hv h35 h43) rfl rfl ⟨Nat.le_of_ble_eq_true rfl, Nat.le_of_ble_eq_true rfl⟩ hP h35 rfl rfl hl.1 rfl (Nat.le_of_ble_eq_true rfl) dL_law_1106 ⟨Nat.le_of_ble_eq_true rfl, Nat.le_of_ble_eq_true rfl⟩) ?_
    refine W.lcmp hx hb dL_law_1109 ?_
    refine lv_if_eq (tgt := 1535) hx hb dL_law_1110 (by decide) (fun _ => ?_) (fun q => absurd ((lc_eq _ _).mpr he) q)
    exact KK tx_length tx_bytes ro_pupils ro_mood ro_letters ro_rows ro_columns ro_tenths ro_needs ro_toldDares le_seed le_questions le_rightOnes le_wrongOnes le_isKept le_dares le_times ha_cells ch_pupils ch_rule ch_ranks ch_eligible ch_eligibleAndRight ch_cells s1_seed s1_questions s1_rightOnes s1_wrongOnes s1_isKept s1_dares s1_times s2_seed s2_questions s2_rightOnes s2_wrongOnes s2_isKept s2_dares s2_times ta_size ta_hands ta_ones ta_cells tr_waited tr_size tr_hands m_readMany m_pupils m_mood m_length m_at m_faultAt m_drawn m_questions m_rights m_wrongs m_tapes m_trials m_read m_pupil m_dares m_times m_text m_joint m_others m_tapeHands m_tapeTaken m_trialHands m_trialWaited m_isKept m_keptDares m_keptTimes m_keptDrawn m_keptLesson hR2 _ _ _ hP hD hS ⟨h0, h1, h2, h3, h4, h5, h6, h7, h8, h9, h10, h11, h12, h13, h14, h15, h16, h17, h18, h19, h20, h21, h22, h23, h24, h25, h26, h27, h28, h29, h30, h31, h32, h33, h34, h35, h36, h37, h38, h39, h40, h41, h42, h43, h44, h45, h46, h47, h48, h49, h50, h51⟩ ls hl
  · obtain ⟨u, v, hu, hv, he, hR2⟩ := P_due i (by omega) tx_length tx_bytes ro_pupils ro_mood ro_letters ro_rows ro_columns ro_tenths ro_needs ro_toldDares le_seed le_questions le_rightOnes le_wrongOnes le_isKept le_dares le_times ha_cells ch_pupils ch_rule ch_ranks ch_eligible ch_eligibleAndRight ch_cells s1_seed s1_questions s1_rightOnes s1_wrongOnes s1_isKept s1_dares s1_times s2_seed s2_questions s2_rightOnes s2_wrongOnes s2_isKept s2_dares s2_times ta_size ta_hands ta_ones ta_cells tr_waited tr_size tr_hands m_readMany m_pupils m_mood m_length m_at m_faultAt m_drawn m_questions m_rights m_wrongs m_tapes m_trials m_read m_pupil m_dares m_times m_text m_joint m_others m_tapeHands m_tapeTaken m_trialHands m_trialWaited m_isKept m_keptDares m_keptTimes m_keptDrawn m_keptLesson (xs (nI i + (1 : Int32)).toNatClampNeg) (1 : Int32) (by decide) hR
    refine lv_aload_n hx hb dL_law_1065 rfl (lv_at hl 1 rfl) ?_
    refine lv_aload_n hx hb dL_law_1066 rfl (lv_at hl 0 rfl) ?_
    refine lv_iload_n hx hb dL_law_1067 rfl (lv_at hl 3 rfl) ?_
    refine lv_iconst (v := (1 : Int32)) hx hb dL_law_1068 (by decide) ?_
    refine lv_iadd hx hb dL_law_1069 ?_
    refine va_sld hx hb hX hbl hbA hS i1 dL_law_1070 ?_
    refine lv_aload_n hx hb dL_law_1071 rfl (lv_at hl 0 rfl) ?_
    refine lv_iload_n hx hb dL_law_1072 rfl (lv_at hl 3 rfl) ?_
    refine lv_iconst (v := (2 : Int32)) hx hb dL_law_1073 (by decide) ?_
    refine lv_iadd hx hb dL_law_1074 ?_
    refine va_sld hx hb hX hbl hbA hS i2 dL_law_1075 ?_
    refine lv_if_eq (tgt := 1083) hx hb dL_law_1076 (by decide) (fun q => absurd q hz) (fun _ => ?_)
    refine lv_iconst (v := (1 : Int32)) hx hb dL_law_1079 (by decide) ?_
    refine lv_goto (tgt := 1084) hx hb dL_law_1080 (by decide) ?_
    refine rd_l (runV (As := [.int (xs (nI i + (1 : Int32)).toNatClampNeg), .int (1 : Int32)]) (rest := []) X cq_X8_due lk_L_119 (c_X8_due l D cI cJ cZ a ws0 ta_size ta_hands (xs (nI i + (1 : Int32)).toNatClampNeg) (1 : Int32) u hu h0 h28 h29) rfl rfl ⟨Nat.le_of_ble_eq_true rfl, Nat.le_of_ble_eq_true rfl⟩ hP h0 rfl rfl hl.1 rfl (Nat.le_of_ble_eq_true rfl) dL_law_1084 ⟨Nat.le_of_ble_eq_true rfl, Nat.le_of_ble_eq_true rfl⟩) ?_
    refine lv_aload_n hx hb dL_law_1087 rfl (lv_at hl 2 rfl) ?_
    refine lv_aload_n hx hb dL_law_1088 rfl (lv_at hl 0 rfl) ?_
    refine lv_iload_n hx hb dL_law_1089 rfl (lv_at hl 3 rfl) ?_
    refine lv_iconst (v := (1 : Int32)) hx hb dL_law_1090 (by decide) ?_
    refine lv_iadd hx hb dL_law_1091 ?_
    refine va_sld hx hb hX hbl hbA hS i1 dL_law_1092 ?_
    refine lv_aload_n hx hb dL_law_1093 rfl (lv_at hl 0 rfl) ?_
    refine lv_iload_n hx hb dL_law_1094 rfl (lv_at hl 3 rfl) ?_
    refine lv_iconst (v := (2 : Int32)) hx hb dL_law_1095 (by decide) ?_
    refine lv_iadd hx hb dL_law_1096 ?_
    refine va_sld hx hb hX hbl hbA hS i2 dL_law_1097 ?_
    refine lv_if_eq (tgt := 1105) hx hb dL_law_1098 (by decide) (fun q => absurd q hz) (fun _ => ?_)
    refine lv_iconst (v := (1 : Int32)) hx hb dL_law_1101 (by decide) ?_
    refine lv_goto (tgt := 1106) hx hb dL_law_1102 (by decide) ?_
    refine rd_l (runV (As := [.int (xs (nI i + (1 : Int32)).toNatClampNeg), .int (1 : Int32)]) (rest := [.long u]) X cq_X9_due lk_L_123 (c_X9_due l D cI cJ cZ a ws0 m_readMany m_pupils m_mood m_length m_at m_faultAt m_drawn m_questions m_rights m_wrongs m_tapes m_trials m_tapeHands (xs (nI i + (1 : Int32)).toNatClampNeg) (1 : Int32) v hv h35 h43) rfl rfl ⟨Nat.le_of_ble_eq_true rfl, Nat.le_of_ble_eq_true rfl⟩ hP h35 rfl rfl hl.1 rfl (Nat.le_of_ble_eq_true rfl) dL_law_1106 ⟨Nat.le_of_ble_eq_true rfl, Nat.le_of_ble_eq_true rfl⟩) ?_
    refine W.lcmp hx hb dL_law_1109 ?_
    refine lv_if_eq (tgt := 1535) hx hb dL_law_1110 (by decide) (fun _ => ?_) (fun q => absurd ((lc_eq _ _).mpr he) q)
    exact KK tx_length tx_bytes ro_pupils ro_mood ro_letters ro_rows ro_columns ro_tenths ro_needs ro_toldDares le_seed le_questions le_rightOnes le_wrongOnes le_isKept le_dares le_times ha_cells ch_pupils ch_rule ch_ranks ch_eligible ch_eligibleAndRight ch_cells s1_seed s1_questions s1_rightOnes s1_wrongOnes s1_isKept s1_dares s1_times s2_seed s2_questions s2_rightOnes s2_wrongOnes s2_isKept s2_dares s2_times ta_size ta_hands ta_ones ta_cells tr_waited tr_size tr_hands m_readMany m_pupils m_mood m_length m_at m_faultAt m_drawn m_questions m_rights m_wrongs m_tapes m_trials m_read m_pupil m_dares m_times m_text m_joint m_others m_tapeHands m_tapeTaken m_trialHands m_trialWaited m_isKept m_keptDares m_keptTimes m_keptDrawn m_keptLesson hR2 _ _ _ hP hD hS ⟨h0, h1, h2, h3, h4, h5, h6, h7, h8, h9, h10, h11, h12, h13, h14, h15, h16, h17, h18, h19, h20, h21, h22, h23, h24, h25, h26, h27, h28, h29, h30, h31, h32, h33, h34, h35, h36, h37, h38, h39, h40, h41, h42, h43, h44, h45, h46, h47, h48, h49, h50, h51⟩ ls hl
set_option maxHeartbeats 4000000 in
set_option maxRecDepth 100000 in
theorem case_25 {p : Program} {l : Launch} {e : Env} {s : State} {m : MethodId} {below : List Frame} {meth : Method} {c : Code} {D : va_G} {cI cJ cZ : ClassId} {a : Nat → Nat} {b L : Nat} {xs : Nat → Int32} (C0 : lw_At p s m meth c b L xs) (X : Cx yL_law code 4 ret D cI cJ cZ p s m #[Value.ref b] meth c) (i : Nat) (hi : i + 5 < L) (hL : L ≤ 3072) (tx_length : Int32) (tx_bytes : Nat → Int32) (ro_pupils : Int32) (ro_mood : Int32) (ro_letters : Nat → Int32) (ro_rows : Nat → Int32) (ro_columns : Nat → Int32) (ro_tenths : Nat → Int32) (ro_needs : Nat → Int32) (ro_toldDares : Nat → Int32) (le_seed : Int64) (le_questions : Int32) (le_rightOnes : Int32) (le_wrongOnes : Int32) (le_isKept : Int32) (le_dares : Nat → Int32) (le_times : Nat → Int32) (ha_cells : Nat → Int64) (ch_pupils : Int32) (ch_rule : Int32) (ch_ranks : Nat → Int32) (ch_eligible : Nat → Int32) (ch_eligibleAndRight : Nat → Int32) (ch_cells : Nat → Int64) (s1_seed : Int64) (s1_questions : Int32) (s1_rightOnes : Int32) (s1_wrongOnes : Int32) (s1_isKept : Int32) (s1_dares : Nat → Int32) (s1_times : Nat → Int32) (s2_seed : Int64) (s2_questions : Int32) (s2_rightOnes : Int32) (s2_wrongOnes : Int32) (s2_isKept : Int32) (s2_dares : Nat → Int32) (s2_times : Nat → Int32) (ta_size : Int32) (ta_hands : Nat → Int32) (ta_ones : Nat → Int32) (ta_cells : Nat → Int64) (tr_waited : Int32) (tr_size : Int32) (tr_hands : Nat → Int32) (m_readMany : Int32) (m_pupils : Int32) (m_mood : Int32) (m_length : Int32) (m_at : Int32) (m_faultAt : Int32) (m_drawn : Int64) (m_questions : Int32) (m_rights : Int32) (m_wrongs : Int32) (m_tapes : Int32) (m_trials : Int32) (m_read : Nat → Int32) (m_pupil : Nat → Int32) (m_dares : Nat → Int32) (m_times : Nat → Int32) (m_text : Nat → Int32) (m_joint : Nat → Int64) (m_others : Nat → Int64) (m_tapeHands : Nat → Int32) (m_tapeTaken : Nat → Int32) (m_trialHands : Nat → Int32) (m_trialWaited : Nat → Int32) (m_isKept : Nat → Int32) (m_keptDares : Nat → Int32) (m_keptTimes : Nat → Int32) (m_keptDrawn : Nat → Int64) (m_keptLesson : Nat → Int32) (hR : Rel i tx_length tx_bytes ro_pupils ro_mood ro_letters ro_rows ro_columns ro_tenths ro_needs ro_toldDares le_seed le_questions le_rightOnes le_wrongOnes le_dares le_times s1_seed s1_questions s1_rightOnes s1_wrongOnes s1_isKept s1_dares s1_times s2_seed s2_questions s2_rightOnes s2_wrongOnes s2_isKept s2_dares s2_times ta_size ta_hands ta_ones tr_waited tr_size tr_hands m_pupils m_mood m_length m_drawn m_questions m_rights m_wrongs m_tapes m_trials m_pupil m_dares m_times m_text m_tapeHands m_tapeTaken m_trialHands m_trialWaited m_isKept m_keptDares m_keptTimes m_keptDrawn m_keptLesson) (ws0 : va_W) (H : Heap) (locs : List Loc) (hP : va_P D vwCl ws0 H) (hD : va_D (fun q : Nat => s.heap.size ≤ q) ws0) (hS : va_S (fun q : Nat => s.heap.size ≤ q) s.heap H locs) (hw : wAll a cI cJ cZ ws0 tx_length tx_bytes ro_pupils ro_mood ro_letters ro_rows ro_columns ro_tenths ro_needs ro_toldDares le_seed le_questions le_rightOnes le_wrongOnes le_isKept le_dares le_times ha_cells ch_pupils ch_rule ch_ranks ch_eligible ch_eligibleAndRight ch_cells s1_seed s1_questions s1_rightOnes s1_wrongOnes s1_isKept s1_dares s1_times s2_seed s2_questions s2_rightOnes s2_wrongOnes s2_isKept s2_dares s2_times ta_size ta_hands ta_ones ta_cells tr_waited tr_size tr_hands m_readMany m_pupils m_mood m_length m_at m_faultAt m_drawn m_questions m_rights m_wrongs m_tapes m_trials m_read m_pupil m_dares m_times m_text m_joint m_others m_tapeHands m_tapeTaken m_trialHands m_trialWaited m_isKept m_keptDares m_keptTimes m_keptDrawn m_keptLesson) (ls : Array Slot) (hl : lv_has ls 4 [(0, .ref b), (1, .ref (a 0)), (2, .ref (a 35)), (3, .int (nI i))]) (KK : ∀ (tx_length : Int32) (tx_bytes : Nat → Int32) (ro_pupils : Int32) (ro_mood : Int32) (ro_letters : Nat → Int32) (ro_rows : Nat → Int32) (ro_columns : Nat → Int32) (ro_tenths : Nat → Int32) (ro_needs : Nat → Int32) (ro_toldDares : Nat → Int32) (le_seed : Int64) (le_questions : Int32) (le_rightOnes : Int32) (le_wrongOnes : Int32) (le_isKept : Int32) (le_dares : Nat → Int32) (le_times : Nat → Int32) (ha_cells : Nat → Int64) (ch_pupils : Int32) (ch_rule : Int32) (ch_ranks : Nat → Int32) (ch_eligible : Nat → Int32) (ch_eligibleAndRight : Nat → Int32) (ch_cells : Nat → Int64) (s1_seed : Int64) (s1_questions : Int32) (s1_rightOnes : Int32) (s1_wrongOnes : Int32) (s1_isKept : Int32) (s1_dares : Nat → Int32) (s1_times : Nat → Int32) (s2_seed : Int64) (s2_questions : Int32) (s2_rightOnes : Int32) (s2_wrongOnes : Int32) (s2_isKept : Int32) (s2_dares : Nat → Int32) (s2_times : Nat → Int32) (ta_size : Int32) (ta_hands : Nat → Int32) (ta_ones : Nat → Int32) (ta_cells : Nat → Int64) (tr_waited : Int32) (tr_size : Int32) (tr_hands : Nat → Int32) (m_readMany : Int32) (m_pupils : Int32) (m_mood : Int32) (m_length : Int32) (m_at : Int32) (m_faultAt : Int32) (m_drawn : Int64) (m_questions : Int32) (m_rights : Int32) (m_wrongs : Int32) (m_tapes : Int32) (m_trials : Int32) (m_read : Nat → Int32) (m_pupil : Nat → Int32) (m_dares : Nat → Int32) (m_times : Nat → Int32) (m_text : Nat → Int32) (m_joint : Nat → Int64) (m_others : Nat → Int64) (m_tapeHands : Nat → Int32) (m_tapeTaken : Nat → Int32) (m_trialHands : Nat → Int32) (m_trialWaited : Nat → Int32) (m_isKept : Nat → Int32) (m_keptDares : Nat → Int32) (m_keptTimes : Nat → Int32) (m_keptDrawn : Nat → Int64) (m_keptLesson : Nat → Int32), Rel (i + 1) tx_length tx_bytes ro_pupils ro_mood ro_letters ro_rows ro_columns ro_tenths ro_needs ro_toldDares le_seed le_questions le_rightOnes le_wrongOnes le_dares le_times s1_seed s1_questions s1_rightOnes s1_wrongOnes s1_isKept s1_dares s1_times s2_seed s2_questions s2_rightOnes s2_wrongOnes s2_isKept s2_dares s2_times ta_size ta_hands ta_ones tr_waited tr_size tr_hands m_pupils m_mood m_length m_drawn m_questions m_rights m_wrongs m_tapes m_trials m_pupil m_dares m_times m_text m_tapeHands m_tapeTaken m_trialHands m_trialWaited m_isKept m_keptDares m_keptTimes m_keptDrawn m_keptLesson → ∀ (w : va_W) (H : Heap) (locs : List Loc), va_P D vwCl w H → va_D (fun q : Nat => s.heap.size ≤ q) w → va_S (fun q : Nat => s.heap.size ≤ q) s.heap H locs → wAll a cI cJ cZ w tx_length tx_bytes ro_pupils ro_mood ro_letters ro_rows ro_columns ro_tenths ro_needs ro_toldDares le_seed le_questions le_rightOnes le_wrongOnes le_isKept le_dares le_times ha_cells ch_pupils ch_rule ch_ranks ch_eligible ch_eligibleAndRight ch_cells s1_seed s1_questions s1_rightOnes s1_wrongOnes s1_isKept s1_dares s1_times s2_seed s2_questions s2_rightOnes s2_wrongOnes s2_isKept s2_dares s2_times ta_size ta_hands ta_ones ta_cells tr_waited tr_size tr_hands m_readMany m_pupils m_mood m_length m_at m_faultAt m_drawn m_questions m_rights m_wrongs m_tapes m_trials m_read m_pupil m_dares m_times m_text m_joint m_others m_tapeHands m_tapeTaken m_trialHands m_trialWaited m_isKept m_keptDares m_keptTimes m_keptDrawn m_keptLesson → ∀ ls : Array Slot, lv_has ls 4 [(0, .ref b), (1, .ref (a 0)), (2, .ref (a 35)), (3, .int (nI i))] → W p l e room_1 s m #[Value.ref b] below meth c H locs 52 1402 (lw_Z below #[Value.ref b] s) (F0 m 1535 ls [])) : W p l e room_1 s m #[Value.ref b] below meth c H locs 52 1402 (lw_Z below #[Value.ref b] s) (F0 m 1115 ls []) := by
  obtain ⟨-, -, -, -, -, -, hX, hbl, -, -⟩ := C0
  obtain ⟨hx, hb, hr, hml, hown, hts, hlk, hK, hN⟩ := id X
  have hown : s.vm.findClass RL = some m.cls := hown
  have hbA : ¬ (fun q : Nat => s.heap.size ≤ q) b := Nat.not_le.mpr hbl
  obtain ⟨h0, h1, h2, h3, h4, h5, h6, h7, h8, h9, h10, h11, h12, h13, h14, h15, h16, h17, h18, h19, h20, h21, h22, h23, h24, h25, h26, h27, h28, h29, h30, h31, h32, h33, h34, h35, h36, h37, h38, h39, h40, h41, h42, h43, h44, h45, h46, h47, h48, h49, h50, h51⟩ := hw
  have i1 : vp_in (nI i + (1 : Int32)) L := by rw [show (1 : Int32) = nI 1 from rfl, nI_add]; exact vp_in_nI (by omega) (by omega)
  have i2 : vp_in (nI i + (2 : Int32)) L := by rw [show (2 : Int32) = nI 2 from rfl, nI_add]; exact vp_in_nI (by omega) (by omega)
  have i3 : vp_in (nI i + (3 : Int32)) L := by rw [show (3 : Int32) = nI 3 from rfl, nI_add]; exact vp_in_nI (by omega) (by omega)
  have i4 : vp_in (nI i + (4 : Int32)) L := by rw [show (4 : Int32) = nI 4 from rfl, nI_add]; exact vp_in_nI (by omega) (by omega)
  have i5 : vp_in (nI i + (5 : Int32)) L := by rw [show (5 : Int32) = nI 5 from rfl, nI_add]; exact vp_in_nI (by omega) (by omega)
  by_cases hz : xs (nI i + (2 : Int32)).toNatClampNeg = 0
  · obtain ⟨u, v, hu, hv, he, hR2⟩ := P_luck i (by omega) tx_length tx_bytes ro_pupils ro_mood ro_letters ro_rows ro_columns ro_tenths ro_needs ro_toldDares le_seed le_questions le_rightOnes le_wrongOnes le_isKept le_dares le_times ha_cells ch_pupils ch_rule ch_ranks ch_eligible ch_eligibleAndRight ch_cells s1_seed s1_questions s1_rightOnes s1_wrongOnes s1_isKept s1_dares s1_times s2_seed s2_questions s2_rightOnes s2_wrongOnes s2_isKept s2_dares s2_times ta_size ta_hands ta_ones ta_cells tr_waited tr_size tr_hands m_readMany m_pupils m_mood m_length m_at m_faultAt m_drawn m_questions m_rights m_wrongs m_tapes m_trials m_read m_pupil m_dares m_times m_text m_joint m_others m_tapeHands m_tapeTaken m_trialHands m_trialWaited m_isKept m_keptDares m_keptTimes m_keptDrawn m_keptLesson (xs (nI i + (1 : Int32)).toNatClampNeg) (0 : Int32) (by decide) hR
    refine lv_aload_n hx hb dL_law_1115 rfl (lv_at hl 1 rfl) ?_
    refine lv_aload_n hx hb dL_law_1116 rfl (lv_at hl 0 rfl) ?_
    refine lv_iload_n hx hb dL_law_1117 rfl (lv_at hl 3 rfl) ?_
    refine lv_iconst (v := (1 : Int32)) hx hb dL_law_1118 (by decide) ?_
    refine lv_iadd hx hb dL_law_1119 ?_
    refine va_sld hx hb hX hbl hbA hS i1 dL_law_1120 ?_
    refine lv_aload_n hx hb dL_law_1121 rfl (lv_at hl 0 rfl) ?_
    refine lv_iload_n hx hb dL_law_1122 rfl (lv_at hl 3 rfl) ?_
    refine lv_iconst (v := (2 : Int32)) hx hb dL_law_1123 (by decide) ?_
    refine lv_iadd hx hb dL_law_1124 ?_
    refine va_sld hx hb hX hbl hbA hS i2 dL_law_1125 ?_
    refine lv_if_eq (tgt := 1133) hx hb dL_law_1126 (by decide) (fun _ => ?_) (fun q => absurd hz q)
    refine lv_iconst (v := (0 : Int32)) hx hb dL_law_1133 (by decide) ?_
    refine wr_l (runV (As := [.int (xs (nI i + (1 : Int32)).toNatClampNeg), .int (0 : Int32)]) (rest := []) X cq_X8_luck lk_L_124 (c_X8_luck l D cI cJ cZ a ws0 (fun q : Nat => s.heap.size ≤ q) ta_size ta_hands ta_ones ta_cells (xs (nI i + (1 : Int32)).toNatClampNeg) (0 : Int32) u hu h0 h28 h29 h30 h31 h32 hD) rfl rfl ⟨Nat.le_of_ble_eq_true rfl, Nat.le_of_ble_eq_true rfl⟩ hP h0 rfl rfl hl.1 rfl (Nat.le_of_ble_eq_true rfl) dL_law_1134 ⟨Nat.le_of_ble_eq_true rfl, Nat.le_of_ble_eq_true rfl⟩) hS (fun w1 H locs hP hD hk hB hS => ?_)
    have h32 : w1[32]? = some (a 32, .inl (cJ, 169, .inr (.inl u.2))) := hB
    have h0 := (hk 0 (by decide)).trans h0
    have h1 := (hk 1 (by decide)).trans h1
    have h2 := (hk 2 (by decide)).trans h2
    have h3 := (hk 3 (by decide)).trans h3
    have h4 := (hk 4 (by decide)).trans h4
    have h5 := (hk 5 (by decide)).trans h5
    have h6 := (hk 6 (by decide)).trans h6
    have h7 := (hk 7 (by decide)).trans h7
    have h8 := (hk 8 (by decide)).trans h8
    have h9 := (hk 9 (by decide)).trans h9
    have h10 := (hk 10 (by decide)).trans h10
    have h11 := (hk 11 (by decide)).trans h11
    have h12 := (hk 12 (by decide)).trans h12
    have h13 := (hk 13 (by decide)).trans h13
    have h14 := (hk 14 (by decide)).trans h14
    have h15 := (hk 15 (by decide)).trans h15
    have h16 := (hk 16 (by decide)).trans h16
    have h17 := (hk 17 (by decide)).trans h17
    have h18 := (hk 18 (by decide)).trans h18
    have h19 := (hk 19 (by decide)).trans h19
    have h20 := (hk 20 (by decide)).trans h20
    have h21 := (hk 21 (by decide)).trans h21
    have h22 := (hk 22 (by decide)).trans h22
    have h23 := (hk 23 (by decide)).trans h23
    have h24 := (hk 24 (by decide)).trans h24
    have h25 := (hk 25 (by decide)).trans h25
    have h26 := (hk 26 (by decide)).trans h26
    have h27 := (hk 27 (by decide)).trans h27
    have h28 := (hk 28 (by decide)).trans h28
    have h29 := (hk 29 (by decide)).trans h29
    have h30 := (hk 30 (by decide)).trans h30
    have h31 := (hk 31 (by decide)).trans h31
    have h33 := (hk 33 (by decide)).trans h33
    have h34 := (hk 34 (by decide)).trans h34
    have h35 := (hk 35 (by decide)).trans h35
    have h36 := (hk 36 (by decide)).trans h36
    have h37 := (hk 37 (by decide)).trans h37
    have h38 := (hk 38 (by decide)).trans h38
    have h39 := (hk 39 (by decide)).trans h39
    have h40 := (hk 40 (by decide)).trans h40
    have h41 := (hk 41 (by decide)).trans h41
    have h42 := (hk 42 (by decide)).trans h42
    have h43 := (hk 43 (by decide)).trans h43
    have h44 := (hk 44 (by decide)).trans h44
    have h45 := (hk 45 (by decide)).trans h45
    have h46 := (hk 46 (by decide)).trans h46
    have h47 := (hk 47 (by decide)).trans h47
    have h48 := (hk 48 (by decide)).trans h48
    have h49 := (hk 49 (by decide)).trans h49
    have h50 := (hk 50 (by decide)).trans h50
    have h51 := (hk 51 (by decide)).trans h51
    refine lv_aload_n hx hb dL_law_1137 rfl (lv_at hl 2 rfl) ?_
    refine lv_aload_n hx hb dL_law_1138 rfl (lv_at hl 0 rfl) ?_
    refine lv_iload_n hx hb dL_law_1139 rfl (lv_at hl 3 rfl) ?_
    refine lv_iconst (v := (1 : Int32)) hx hb dL_law_1140 (by decide) ?_
    refine lv_iadd hx hb dL_law_1141 ?_
    refine va_sld hx hb hX hbl hbA hS i1 dL_law_1142 ?_
    refine lv_aload_n hx hb dL_law_1143 rfl (lv_at hl 0 rfl) ?_
    refine lv_iload_n hx hb dL_law_1144 rfl (lv_at hl 3 rfl) ?_
    refine lv_iconst (v := (2 : Int32)) hx hb dL_law_1145 (by decide) ?_
    refine lv_iadd hx hb dL_law_1146 ?_
    refine va_sld hx hb hX hbl hbA hS i2 dL_law_1147 ?_
    refine lv_if_eq (tgt := 1155) hx hb dL_law_1148 (by decide) (fun _ => ?_) (fun q => absurd hz q)
    refine lv_iconst (v := (0 : Int32)) hx hb dL_law_1155 (by decide) ?_
    refine wr_l (runV (As := [.int (xs (nI i + (1 : Int32)).toNatClampNeg), .int (0 : Int32)]) (rest := [.long u.1]) X cq_X9_luck lk_L_127 (c_X9_luck l D cI cJ cZ a w1 (fun q : Nat => s.heap.size ≤ q) m_readMany m_pupils m_mood m_length m_at m_faultAt m_drawn m_questions m_rights m_wrongs m_tapes m_trials m_others m_tapeHands m_tapeTaken (xs (nI i + (1 : Int32)).toNatClampNeg) (0 : Int32) v hv h35 h42 h43 h44 hD) rfl rfl ⟨Nat.le_of_ble_eq_true rfl, Nat.le_of_ble_eq_true rfl⟩ hP h35 rfl rfl hl.1 rfl (Nat.le_of_ble_eq_true rfl) dL_law_1156 ⟨Nat.le_of_ble_eq_true rfl, Nat.le_of_ble_eq_true rfl⟩) hS (fun w2 H locs hP hD hk hB hS => ?_)
    have h42 : w2[42]? = some (a 42, .inl (cJ, 13, .inr (.inl v.2))) := hB
    have h0 := (hk 0 (by decide)).trans h0
    have h1 := (hk 1 (by decide)).trans h1
    have h2 := (hk 2 (by decide)).trans h2
    have h3 := (hk 3 (by decide)).trans h3
    have h4 := (hk 4 (by decide)).trans h4
    have h5 := (hk 5 (by decide)).trans h5
    have h6 := (hk 6 (by decide)).trans h6
    have h7 := (hk 7 (by decide)).trans h7
    have h8 := (hk 8 (by decide)).trans h8
    have h9 := (hk 9 (by decide)).trans h9
    have h10 := (hk 10 (by decide)).trans h10
    have h11 := (hk 11 (by decide)).trans h11
    have h12 := (hk 12 (by decide)).trans h12
    have h13 := (hk 13 (by decide)).trans h13
    have h14 := (hk 14 (by decide)).trans h14
    have h15 := (hk 15 (by decide)).trans h15
    have h16 := (hk 16 (by decide)).trans h16
    have h17 := (hk 17 (by decide)).trans h17
    have h18 := (hk 18 (by decide)).trans h18
    have h19 := (hk 19 (by decide)).trans h19
    have h20 := (hk 20 (by decide)).trans h20
    have h21 := (hk 21 (by decide)).trans h21
    have h22 := (hk 22 (by decide)).trans h22
    have h23 := (hk 23 (by decide)).trans h23
    have h24 := (hk 24 (by decide)).trans h24
    have h25 := (hk 25 (by decide)).trans h25
    have h26 := (hk 26 (by decide)).trans h26
    have h27 := (hk 27 (by decide)).trans h27
    have h28 := (hk 28 (by decide)).trans h28
    have h29 := (hk 29 (by decide)).trans h29
    have h30 := (hk 30 (by decide)).trans h30
    have h31 := (hk 31 (by decide)).trans h31
    have h32 := (hk 32 (by decide)).trans h32
    have h33 := (hk 33 (by decide)).trans h33
    have h34 := (hk 34 (by decide)).trans h34
    have h35 := (hk 35 (by decide)).trans h35
    have h36 := (hk 36 (by decide)).trans h36
    have h37 := (hk 37 (by decide)).trans h37
    have h38 := (hk 38 (by decide)).trans h38
    have h39 := (hk 39 (by decide)).trans h39
    have h40 := (hk 40 (by decide)).trans h40
    have h41 := (hk 41 (by decide)).trans h41
    have h43 := (hk 43 (by decide)).trans h43
    have h44 := (hk 44 (by decide)).trans h44
    have h45 := (hk 45 (by decide)).trans h45
    have h46 := (hk 46 (by decide)).trans h46
    have h47 := (hk 47 (by decide)).trans h47
    have h48 := (hk 48 (by decide)).trans h48
    have h49 := (hk 49 (by decide)).trans h49
    have h50 := (hk 50 (by decide)).trans h50
    have h51 := (hk 51 (by decide)).trans h51
    refine W.lcmp hx hb dL_law_1159 ?_
    refine lv_if_eq (tgt := 1535) hx hb dL_law_1160 (by decide) (fun _ => ?_) (fun q => absurd ((lc_eq _ _).mpr he) q)
    exact KK tx_length tx_bytes ro_pupils ro_mood ro_letters ro_rows ro_columns ro_tenths ro_needs ro_toldDares le_seed le_questions le_rightOnes le_wrongOnes le_isKept le_dares le_times ha_cells ch_pupils ch_rule ch_ranks ch_eligible ch_eligibleAndRight ch_cells s1_seed s1_questions s1_rightOnes s1_wrongOnes s1_isKept s1_dares s1_times s2_seed s2_questions s2_rightOnes s2_wrongOnes s2_isKept s2_dares s2_times ta_size ta_hands ta_ones u.2 tr_waited tr_size tr_hands m_readMany m_pupils m_mood m_length m_at m_faultAt m_drawn m_questions m_rights m_wrongs m_tapes m_trials m_read m_pupil m_dares m_times m_text m_joint v.2 m_tapeHands m_tapeTaken m_trialHands m_trialWaited m_isKept m_keptDares m_keptTimes m_keptDrawn m_keptLesson hR2 _ _ _ hP hD hS ⟨h0, h1, h2, h3, h4, h5, h6, h7, h8, h9, h10, h11, h12, h13, h14, h15, h16, h17, h18, h19, h20, h21, h22, h23, h24, h25, h26, h27, h28, h29, h30, h31, h32, h33, h34, h35, h36, h37, h38, h39, h40, h41, h42, h43, h44, h45, h46, h47, h48, h49, h50, h51⟩ ls hl
  · obtain ⟨u, v, hu, hv, he, hR2⟩ := P_luck i (by omega) tx_length tx_bytes ro_pupils ro_mood ro_letters ro_rows ro_columns ro_tenths ro_needs ro_toldDares le_seed le_questions le_rightOnes le_wrongOnes le_isKept le_dares le_times ha_cells ch_pupils ch_rule ch_ranks ch_eligible ch_eligibleAndRight ch_cells s1_seed s1_questions s1_rightOnes s1_wrongOnes s1_isKept s1_dares s1_times s2_seed s2_questions s2_rightOnes s2_wrongOnes s2_isKept s2_dares s2_times ta_size ta_hands ta_ones ta_cells tr_waited tr_size tr_hands m_readMany m_pupils m_mood m_length m_at m_faultAt m_drawn m_questions m_rights m_wrongs m_tapes m_trials m_read m_pupil m_dares m_times m_text m_joint m_others m_tapeHands m_tapeTaken m_trialHands m_trialWaited m_isKept m_keptDares m_keptTimes m_keptDrawn m_keptLesson (xs (nI i + (1 : Int32)).toNatClampNeg) (1 : Int32) (by decide) hR
    refine lv_aload_n hx hb dL_law_1115 rfl (lv_at hl 1 rfl) ?_
    refine lv_aload_n hx hb dL_law_1116 rfl (lv_at hl 0 rfl) ?_
    refine lv_iload_n hx hb dL_law_1117 rfl (lv_at hl 3 rfl) ?_
    refine lv_iconst (v := (1 : Int32)) hx hb dL_law_1118 (by decide) ?_
    refine lv_iadd hx hb dL_law_1119 ?_
    refine va_sld hx hb hX hbl hbA hS i1 dL_law_1120 ?_
    refine lv_aload_n hx hb dL_law_1121 rfl (lv_at hl 0 rfl) ?_
    refine lv_iload_n hx hb dL_law_1122 rfl (lv_at hl 3 rfl) ?_
    refine lv_iconst (v := (2 : Int32)) hx hb dL_law_1123 (by decide) ?_
    refine lv_iadd hx hb dL_law_1124 ?_
    refine va_sld hx hb hX hbl hbA hS i2 dL_law_1125 ?_
    refine lv_if_eq (tgt := 1133) hx hb dL_law_1126 (by decide) (fun q => absurd q hz) (fun _ => ?_)
    refine lv_iconst (v := (1 : Int32)) hx hb dL_law_1129 (by decide) ?_
    refine lv_goto (tgt := 1134) hx hb dL_law_1130 (by decide) ?_
    refine wr_l (runV (As := [.int (xs (nI i + (1 : Int32)).toNatClampNeg), .int (1 : Int32)]) (rest := []) X cq_X8_luck lk_L_124 (c_X8_luck l D cI cJ cZ a ws0 (fun q : Nat => s.heap.size ≤ q) ta_size ta_hands ta_ones ta_cells (xs (nI i + (1 : Int32)).toNatClampNeg) (1 : Int32) u hu h0 h28 h29 h30 h31 h32 hD) rfl rfl ⟨Nat.le_of_ble_eq_true rfl, Nat.le_of_ble_eq_true rfl⟩ hP h0 rfl rfl hl.1 rfl (Nat.le_of_ble_eq_true rfl) dL_law_1134 ⟨Nat.le_of_ble_eq_true rfl, Nat.le_of_ble_eq_true rfl⟩) hS (fun w1 H locs hP hD hk hB hS => ?_)
    have h32 : w1[32]? = some (a 32, .inl (cJ, 169, .inr (.inl u.2))) := hB
    have h0 := (hk 0 (by decide)).trans h0
    have h1 := (hk 1 (by decide)).trans h1
    have h2 := (hk 2 (by decide)).trans h2
    have h3 := (hk 3 (by decide)).trans h3
    have h4 := (hk 4 (by decide)).trans h4
    have h5 := (hk 5 (by decide)).trans h5
    have h6 := (hk 6 (by decide)).trans h6
    have h7 := (hk 7 (by decide)).trans h7
    have h8 := (hk 8 (by decide)).trans h8
    have h9 := (hk 9 (by decide)).trans h9
    have h10 := (hk 10 (by decide)).trans h10
    have h11 := (hk 11 (by decide)).trans h11
    have h12 := (hk 12 (by decide)).trans h12
    have h13 := (hk 13 (by decide)).trans h13
    have h14 := (hk 14 (by decide)).trans h14
    have h15 := (hk 15 (by decide)).trans h15
    have h16 := (hk 16 (by decide)).trans h16
    have h17 := (hk 17 (by decide)).trans h17
    have h18 := (hk 18 (by decide)).trans h18
    have h19 := (hk 19 (by decide)).trans h19
    have h20 := (hk 20 (by decide)).trans h20
    have h21 := (hk 21 (by decide)).trans h21
    have h22 := (hk 22 (by decide)).trans h22
    have h23 := (hk 23 (by decide)).trans h23
    have h24 := (hk 24 (by decide)).trans h24
    have h25 := (hk 25 (by decide)).trans h25
    have h26 := (hk 26 (by decide)).trans h26
    have h27 := (hk 27 (by decide)).trans h27
    have h28 := (hk 28 (by decide)).trans h28
    have h29 := (hk 29 (by decide)).trans h29
    have h30 := (hk 30 (by decide)).trans h30
    have h31 := (hk 31 (by decide)).trans h31
    have h33 := (hk 33 (by decide)).trans h33
    have h34 := (hk 34 (by decide)).trans h34
    have h35 := (hk 35 (by decide)).trans h35
    have h36 := (hk 36 (by decide)).trans h36
    have h37 := (hk 37 (by decide)).trans h37
    have h38 := (hk 38 (by decide)).trans h38
    have h39 := (hk 39 (by decide)).trans h39
    have h40 := (hk 40 (by decide)).trans h40
    have h41 := (hk 41 (by decide)).trans h41
    have h42 := (hk 42 (by decide)).trans h42
    have h43 := (hk 43 (by decide)).trans h43
    have h44 := (hk 44 (by decide)).trans h44
    have h45 := (hk 45 (by decide)).trans h45
    have h46 := (hk 46 (by decide)).trans h46
    have h47 := (hk 47 (by decide)).trans h47
    have h48 := (hk 48 (by decide)).trans h48
    have h49 := (hk 49 (by decide)).trans h49
    have h50 := (hk 50 (by decide)).trans h50
    have h51 := (hk 51 (by decide)).trans h51
    refine lv_aload_n hx hb dL_law_1137 rfl (lv_at hl 2 rfl) ?_
    refine lv_aload_n hx hb dL_law_1138 rfl (lv_at hl 0 rfl) ?_
    refine lv_iload_n hx hb dL_law_1139 rfl (lv_at hl 3 rfl) ?_
    refine lv_iconst (v := (1 : Int32)) hx hb dL_law_1140 (by decide) ?_
    refine lv_iadd hx hb dL_law_1141 ?_
    refine va_sld hx hb hX hbl hbA hS i1 dL_law_1142 ?_
    refine lv_aload_n hx hb dL_law_1143 rfl (lv_at hl 0 rfl) ?_
    refine lv_iload_n hx hb dL_law_1144 rfl (lv_at hl 3 rfl) ?_
    refine lv_iconst (v := (2 : Int32)) hx hb dL_law_1145 (by decide) ?_
    refine lv_iadd hx hb dL_law_1146 ?_
    refine va_sld hx hb hX hbl hbA hS i2 dL_law_1147 ?_
    refine lv_if_eq (tgt := 1155) hx hb dL_law_1148 (by decide) (fun q => absurd q hz) (fun _ => ?_)
    refine lv_iconst (v := (1 : Int32)) hx hb dL_law_1151 (by decide) ?_
    refine lv_goto (tgt := 1156) hx hb dL_law_1152 (by decide) ?_
    refine wr_l (runV (As := [.int (xs (nI i + (1 : Int32)).toNatClampNeg), .int (1 : Int32)]) (rest := [.long u.1]) X cq_X9_luck lk_L_127 (c_X9_luck l D cI cJ cZ a w1 (fun q : Nat => s.heap.size ≤ q) m_readMany m_pupils m_mood m_length m_at m_faultAt m_drawn m_questions m_rights m_wrongs m_tapes m_trials m_others m_tapeHands m_tapeTaken (xs (nI i + (1 : Int32)).toNatClampNeg) (1 : Int32) v hv h35 h42 h43 h44 hD) rfl rfl ⟨Nat.le_of_ble_eq_true rfl, Nat.le_of_ble_eq_true rfl⟩ hP h35 rfl rfl hl.1 rfl (Nat.le_of_ble_eq_true rfl) dL_law_1156 ⟨Nat.le_of_ble_eq_true rfl, Nat.le_of_ble_eq_true rfl⟩) hS (fun w2 H locs hP hD hk hB hS => ?_)
    have h42 : w2[42]? = some (a 42, .inl (cJ, 13, .inr (.inl v.2))) := hB
    have h0 := (hk 0 (by decide)).trans h0
    have h1 := (hk 1 (by decide)).trans h1
    have h2 := (hk 2 (by decide)).trans h2
    have h3 := (hk 3 (by decide)).trans h3
    have h4 := (hk 4 (by decide)).trans h4
    have h5 := (hk 5 (by decide)).trans h5
    have h6 := (hk 6 (by decide)).trans h6
    have h7 := (hk 7 (by decide)).trans h7
    have h8 := (hk 8 (by decide)).trans h8
    have h9 := (hk 9 (by decide)).trans h9
    have h10 := (hk 10 (by decide)).trans h10
    have h11 := (hk 11 (by decide)).trans h11
    have h12 := (hk 12 (by decide)).trans h12
    have h13 := (hk 13 (by decide)).trans h13
    have h14 := (hk 14 (by decide)).trans h14
    have h15 := (hk 15 (by decide)).trans h15
    have h16 := (hk 16 (by decide)).trans h16
    have h17 := (hk 17 (by decide)).trans h17
    have h18 := (hk 18 (by decide)).trans h18
    have h19 := (hk 19 (by decide)).trans h19
    have h20 := (hk 20 (by decide)).trans h20
    have h21 := (hk 21 (by decide)).trans h21
    have h22 := (hk 22 (by decide)).trans h22
    have h23 := (hk 23 (by decide)).trans h23
    have h24 := (hk 24 (by decide)).trans h24
    have h25 := (hk 25 (by decide)).trans h25
    have h26 := (hk 26 (by decide)).trans h26
    have h27 := (hk 27 (by decide)).trans h27
    have h28 := (hk 28 (by decide)).trans h28
    have h29 := (hk 29 (by decide)).trans h29
    have h30 := (hk 30 (by decide)).trans h30
    have h31 := (hk 31 (by decide)).trans h31
    have h32 := (hk 32 (by decide)).trans h32
    have h33 := (hk 33 (by decide)).trans h33
    have h34 := (hk 34 (by decide)).trans h34
    have h35 := (hk 35 (by decide)).trans h35
    have h36 := (hk 36 (by decide)).trans h36
    have h37 := (hk 37 (by decide)).trans h37
    have h38 := (hk 38 (by decide)).trans h38
    have h39 := (hk 39 (by decide)).trans h39
    have h40 := (hk 40 (by decide)).trans h40
    have h41 := (hk 41 (by decide)).trans h41
    have h43 := (hk 43 (by decide)).trans h43
    have h44 := (hk 44 (by decide)).trans h44
    have h45 := (hk 45 (by decide)).trans h45
    have h46 := (hk 46 (by decide)).trans h46
    have h47 := (hk 47 (by decide)).trans h47
    have h48 := (hk 48 (by decide)).trans h48
    have h49 := (hk 49 (by decide)).trans h49
    have h50 := (hk 50 (by decide)).trans h50
    have h51 := (hk 51 (by decide)).trans h51
    refine W.lcmp hx hb dL_law_1159 ?_
    refine lv_if_eq (tgt := 1535) hx hb dL_law_1160 (by decide) (fun _ => ?_) (fun q => absurd ((lc_eq _ _).mpr he) q)
    exact KK tx_length tx_bytes ro_pupils ro_mood ro_letters ro_rows ro_columns ro_tenths ro_needs ro_toldDares le_seed le_questions le_rightOnes le_wrongOnes le_isKept le_dares le_times ha_cells ch_pupils ch_rule ch_ranks ch_eligible ch_eligibleAndRight ch_cells s1_seed s1_questions s1_rightOnes s1_wrongOnes s1_isKept s1_dares s1_times s2_seed s2_questions s2_rightOnes s2_wrongOnes s2_isKept s2_dares s2_times ta_size ta_hands ta_ones u.2 tr_waited tr_size tr_hands m_readMany m_pupils m_mood m_length m_at m_faultAt m_drawn m_questions m_rights m_wrongs m_tapes m_trials m_read m_pupil m_dares m_times m_text m_joint v.2 m_tapeHands m_tapeTaken m_trialHands m_trialWaited m_isKept m_keptDares m_keptTimes m_keptDrawn m_keptLesson hR2 _ _ _ hP hD hS ⟨h0, h1, h2, h3, h4, h5, h6, h7, h8, h9, h10, h11, h12, h13, h14, h15, h16, h17, h18, h19, h20, h21, h22, h23, h24, h25, h26, h27, h28, h29, h30, h31, h32, h33, h34, h35, h36, h37, h38, h39, h40, h41, h42, h43, h44, h45, h46, h47, h48, h49, h50, h51⟩ ls hl
set_option maxHeartbeats 4000000 in
set_option maxRecDepth 100000 in
theorem case_26 {p : Program} {l : Launch} {e : Env} {s : State} {m : MethodId} {below : List Frame} {meth : Method} {c : Code} {D : va_G} {cI cJ cZ : ClassId} {a : Nat → Nat} {b L : Nat} {xs : Nat → Int32} (C0 : lw_At p s m meth c b L xs) (X : Cx yL_law code 4 ret D cI cJ cZ p s m #[Value.ref b] meth c) (i : Nat) (hi : i + 5 < L) (hL : L ≤ 3072) (tx_length : Int32) (tx_bytes : Nat → Int32) (ro_pupils : Int32) (ro_mood : Int32) (ro_letters : Nat → Int32) (ro_rows : Nat → Int32) (ro_columns : Nat → Int32) (ro_tenths : Nat → Int32) (ro_needs : Nat → Int32) (ro_toldDares : Nat → Int32) (le_seed : Int64) (le_questions : Int32) (le_rightOnes : Int32) (le_wrongOnes : Int32) (le_isKept : Int32) (le_dares : Nat → Int32) (le_times : Nat → Int32) (ha_cells : Nat → Int64) (ch_pupils : Int32) (ch_rule : Int32) (ch_ranks : Nat → Int32) (ch_eligible : Nat → Int32) (ch_eligibleAndRight : Nat → Int32) (ch_cells : Nat → Int64) (s1_seed : Int64) (s1_questions : Int32) (s1_rightOnes : Int32) (s1_wrongOnes : Int32) (s1_isKept : Int32) (s1_dares : Nat → Int32) (s1_times : Nat → Int32) (s2_seed : Int64) (s2_questions : Int32) (s2_rightOnes : Int32) (s2_wrongOnes : Int32) (s2_isKept : Int32) (s2_dares : Nat → Int32) (s2_times : Nat → Int32) (ta_size : Int32) (ta_hands : Nat → Int32) (ta_ones : Nat → Int32) (ta_cells : Nat → Int64) (tr_waited : Int32) (tr_size : Int32) (tr_hands : Nat → Int32) (m_readMany : Int32) (m_pupils : Int32) (m_mood : Int32) (m_length : Int32) (m_at : Int32) (m_faultAt : Int32) (m_drawn : Int64) (m_questions : Int32) (m_rights : Int32) (m_wrongs : Int32) (m_tapes : Int32) (m_trials : Int32) (m_read : Nat → Int32) (m_pupil : Nat → Int32) (m_dares : Nat → Int32) (m_times : Nat → Int32) (m_text : Nat → Int32) (m_joint : Nat → Int64) (m_others : Nat → Int64) (m_tapeHands : Nat → Int32) (m_tapeTaken : Nat → Int32) (m_trialHands : Nat → Int32) (m_trialWaited : Nat → Int32) (m_isKept : Nat → Int32) (m_keptDares : Nat → Int32) (m_keptTimes : Nat → Int32) (m_keptDrawn : Nat → Int64) (m_keptLesson : Nat → Int32) (hR : Rel i tx_length tx_bytes ro_pupils ro_mood ro_letters ro_rows ro_columns ro_tenths ro_needs ro_toldDares le_seed le_questions le_rightOnes le_wrongOnes le_dares le_times s1_seed s1_questions s1_rightOnes s1_wrongOnes s1_isKept s1_dares s1_times s2_seed s2_questions s2_rightOnes s2_wrongOnes s2_isKept s2_dares s2_times ta_size ta_hands ta_ones tr_waited tr_size tr_hands m_pupils m_mood m_length m_drawn m_questions m_rights m_wrongs m_tapes m_trials m_pupil m_dares m_times m_text m_tapeHands m_tapeTaken m_trialHands m_trialWaited m_isKept m_keptDares m_keptTimes m_keptDrawn m_keptLesson) (ws0 : va_W) (H : Heap) (locs : List Loc) (hP : va_P D vwCl ws0 H) (hD : va_D (fun q : Nat => s.heap.size ≤ q) ws0) (hS : va_S (fun q : Nat => s.heap.size ≤ q) s.heap H locs) (hw : wAll a cI cJ cZ ws0 tx_length tx_bytes ro_pupils ro_mood ro_letters ro_rows ro_columns ro_tenths ro_needs ro_toldDares le_seed le_questions le_rightOnes le_wrongOnes le_isKept le_dares le_times ha_cells ch_pupils ch_rule ch_ranks ch_eligible ch_eligibleAndRight ch_cells s1_seed s1_questions s1_rightOnes s1_wrongOnes s1_isKept s1_dares s1_times s2_seed s2_questions s2_rightOnes s2_wrongOnes s2_isKept s2_dares s2_times ta_size ta_hands ta_ones ta_cells tr_waited tr_size tr_hands m_readMany m_pupils m_mood m_length m_at m_faultAt m_drawn m_questions m_rights m_wrongs m_tapes m_trials m_read m_pupil m_dares m_times m_text m_joint m_others m_tapeHands m_tapeTaken m_trialHands m_trialWaited m_isKept m_keptDares m_keptTimes m_keptDrawn m_keptLesson) (ls : Array Slot) (hl : lv_has ls 4 [(0, .ref b), (1, .ref (a 0)), (2, .ref (a 35)), (3, .int (nI i))]) (KK : ∀ (tx_length : Int32) (tx_bytes : Nat → Int32) (ro_pupils : Int32) (ro_mood : Int32) (ro_letters : Nat → Int32) (ro_rows : Nat → Int32) (ro_columns : Nat → Int32) (ro_tenths : Nat → Int32) (ro_needs : Nat → Int32) (ro_toldDares : Nat → Int32) (le_seed : Int64) (le_questions : Int32) (le_rightOnes : Int32) (le_wrongOnes : Int32) (le_isKept : Int32) (le_dares : Nat → Int32) (le_times : Nat → Int32) (ha_cells : Nat → Int64) (ch_pupils : Int32) (ch_rule : Int32) (ch_ranks : Nat → Int32) (ch_eligible : Nat → Int32) (ch_eligibleAndRight : Nat → Int32) (ch_cells : Nat → Int64) (s1_seed : Int64) (s1_questions : Int32) (s1_rightOnes : Int32) (s1_wrongOnes : Int32) (s1_isKept : Int32) (s1_dares : Nat → Int32) (s1_times : Nat → Int32) (s2_seed : Int64) (s2_questions : Int32) (s2_rightOnes : Int32) (s2_wrongOnes : Int32) (s2_isKept : Int32) (s2_dares : Nat → Int32) (s2_times : Nat → Int32) (ta_size : Int32) (ta_hands : Nat → Int32) (ta_ones : Nat → Int32) (ta_cells : Nat → Int64) (tr_waited : Int32) (tr_size : Int32) (tr_hands : Nat → Int32) (m_readMany : Int32) (m_pupils : Int32) (m_mood : Int32) (m_length : Int32) (m_at : Int32) (m_faultAt : Int32) (m_drawn : Int64) (m_questions : Int32) (m_rights : Int32) (m_wrongs : Int32) (m_tapes : Int32) (m_trials : Int32) (m_read : Nat → Int32) (m_pupil : Nat → Int32) (m_dares : Nat → Int32) (m_times : Nat → Int32) (m_text : Nat → Int32) (m_joint : Nat → Int64) (m_others : Nat → Int64) (m_tapeHands : Nat → Int32) (m_tapeTaken : Nat → Int32) (m_trialHands : Nat → Int32) (m_trialWaited : Nat → Int32) (m_isKept : Nat → Int32) (m_keptDares : Nat → Int32) (m_keptTimes : Nat → Int32) (m_keptDrawn : Nat → Int64) (m_keptLesson : Nat → Int32), Rel (i + 1) tx_length tx_bytes ro_pupils ro_mood ro_letters ro_rows ro_columns ro_tenths ro_needs ro_toldDares le_seed le_questions le_rightOnes le_wrongOnes le_dares le_times s1_seed s1_questions s1_rightOnes s1_wrongOnes s1_isKept s1_dares s1_times s2_seed s2_questions s2_rightOnes s2_wrongOnes s2_isKept s2_dares s2_times ta_size ta_hands ta_ones tr_waited tr_size tr_hands m_pupils m_mood m_length m_drawn m_questions m_rights m_wrongs m_tapes m_trials m_pupil m_dares m_times m_text m_tapeHands m_tapeTaken m_trialHands m_trialWaited m_isKept m_keptDares m_keptTimes m_keptDrawn m_keptLesson → ∀ (w : va_W) (H : Heap) (locs : List Loc), va_P D vwCl w H → va_D (fun q : Nat => s.heap.size ≤ q) w → va_S (fun q : Nat => s.heap.size ≤ q) s.heap H locs → wAll a cI cJ cZ w tx_length tx_bytes ro_pupils ro_mood ro_letters ro_rows ro_columns ro_tenths ro_needs ro_toldDares le_seed le_questions le_rightOnes le_wrongOnes le_isKept le_dares le_times ha_cells ch_pupils ch_rule ch_ranks ch_eligible ch_eligibleAndRight ch_cells s1_seed s1_questions s1_rightOnes s1_wrongOnes s1_isKept s1_dares s1_times s2_seed s2_questions s2_rightOnes s2_wrongOnes s2_isKept s2_dares s2_times ta_size ta_hands ta_ones ta_cells tr_waited tr_size tr_hands m_readMany m_pupils m_mood m_length m_at m_faultAt m_drawn m_questions m_rights m_wrongs m_tapes m_trials m_read m_pupil m_dares m_times m_text m_joint m_others m_tapeHands m_tapeTaken m_trialHands m_trialWaited m_isKept m_keptDares m_keptTimes m_keptDrawn m_keptLesson → ∀ ls : Array Slot, lv_has ls 4 [(0, .ref b), (1, .ref (a 0)), (2, .ref (a 35)), (3, .int (nI i))] → W p l e room_1 s m #[Value.ref b] below meth c H locs 52 1402 (lw_Z below #[Value.ref b] s) (F0 m 1535 ls [])) : W p l e room_1 s m #[Value.ref b] below meth c H locs 52 1402 (lw_Z below #[Value.ref b] s) (F0 m 1165 ls []) := by
  obtain ⟨-, -, -, -, -, -, hX, hbl, -, -⟩ := C0
  obtain ⟨hx, hb, hr, hml, hown, hts, hlk, hK, hN⟩ := id X
  have hown : s.vm.findClass RL = some m.cls := hown
  have hbA : ¬ (fun q : Nat => s.heap.size ≤ q) b := Nat.not_le.mpr hbl
  obtain ⟨h0, h1, h2, h3, h4, h5, h6, h7, h8, h9, h10, h11, h12, h13, h14, h15, h16, h17, h18, h19, h20, h21, h22, h23, h24, h25, h26, h27, h28, h29, h30, h31, h32, h33, h34, h35, h36, h37, h38, h39, h40, h41, h42, h43, h44, h45, h46, h47, h48, h49, h50, h51⟩ := hw
  have i1 : vp_in (nI i + (1 : Int32)) L := by rw [show (1 : Int32) = nI 1 from rfl, nI_add]; exact vp_in_nI (by omega) (by omega)
  have i2 : vp_in (nI i + (2 : Int32)) L := by rw [show (2 : Int32) = nI 2 from rfl, nI_add]; exact vp_in_nI (by omega) (by omega)
  have i3 : vp_in (nI i + (3 : Int32)) L := by rw [show (3 : Int32) = nI 3 from rfl, nI_add]; exact vp_in_nI (by omega) (by omega)
  have i4 : vp_in (nI i + (4 : Int32)) L := by rw [show (4 : Int32) = nI 4 from rfl, nI_add]; exact vp_in_nI (by omega) (by omega)
  have i5 : vp_in (nI i + (5 : Int32)) L := by rw [show (5 : Int32) = nI 5 from rfl, nI_add]; exact vp_in_nI (by omega) (by omega)
  by_cases hz : xs (nI i + (5 : Int32)).toNatClampNeg = 0
  · obtain ⟨u, v, hu, hv, he, hR2⟩ := P_boards i (by omega) tx_length tx_bytes ro_pupils ro_mood ro_letters ro_rows ro_columns ro_tenths ro_needs ro_toldDares le_seed le_questions le_rightOnes le_wrongOnes le_isKept le_dares le_times ha_cells ch_pupils ch_rule ch_ranks ch_eligible ch_eligibleAndRight ch_cells s1_seed s1_questions s1_rightOnes s1_wrongOnes s1_isKept s1_dares s1_times s2_seed s2_questions s2_rightOnes s2_wrongOnes s2_isKept s2_dares s2_times ta_size ta_hands ta_ones ta_cells tr_waited tr_size tr_hands m_readMany m_pupils m_mood m_length m_at m_faultAt m_drawn m_questions m_rights m_wrongs m_tapes m_trials m_read m_pupil m_dares m_times m_text m_joint m_others m_tapeHands m_tapeTaken m_trialHands m_trialWaited m_isKept m_keptDares m_keptTimes m_keptDrawn m_keptLesson (xs (nI i + (1 : Int32)).toNatClampNeg) (xs (nI i + (2 : Int32)).toNatClampNeg) (xs (nI i + (3 : Int32)).toNatClampNeg) (xs (nI i + (4 : Int32)).toNatClampNeg) (0 : Int32) (by decide) hR
    refine lv_aload_n hx hb dL_law_1165 rfl (lv_at hl 1 rfl) ?_
    refine lv_aload_n hx hb dL_law_1166 rfl (lv_at hl 0 rfl) ?_
    refine lv_iload_n hx hb dL_law_1167 rfl (lv_at hl 3 rfl) ?_
    refine lv_iconst (v := (1 : Int32)) hx hb dL_law_1168 (by decide) ?_
    refine lv_iadd hx hb dL_law_1169 ?_
    refine va_sld hx hb hX hbl hbA hS i1 dL_law_1170 ?_
    refine lv_aload_n hx hb dL_law_1171 rfl (lv_at hl 0 rfl) ?_
    refine lv_iload_n hx hb dL_law_1172 rfl (lv_at hl 3 rfl) ?_
    refine lv_iconst (v := (2 : Int32)) hx hb dL_law_1173 (by decide) ?_
    refine lv_iadd hx hb dL_law_1174 ?_
    refine va_sld hx hb hX hbl hbA hS i2 dL_law_1175 ?_
    refine lv_aload_n hx hb dL_law_1176 rfl (lv_at hl 0 rfl) ?_
    refine lv_iload_n hx hb dL_law_1177 rfl (lv_at hl 3 rfl) ?_
    refine lv_iconst (v := (3 : Int32)) hx hb dL_law_1178 (by decide) ?_
    refine lv_iadd hx hb dL_law_1179 ?_
    refine va_sld hx hb hX hbl hbA hS i3 dL_law_1180 ?_
    refine lv_aload_n hx hb dL_law_1181 rfl (lv_at hl 0 rfl) ?_
    refine lv_iload_n hx hb dL_law_1182 rfl (lv_at hl 3 rfl) ?_
    refine lv_iconst (v := (4 : Int32)) hx hb dL_law_1183 (by decide) ?_
    refine lv_iadd hx hb dL_law_1184 ?_
    refine va_sld hx hb hX hbl hbA hS i4 dL_law_1185 ?_
    refine lv_aload_n hx hb dL_law_1186 rfl (lv_at hl 0 rfl) ?_
    refine lv_iload_n hx hb dL_law_1187 rfl (lv_at hl 3 rfl) ?_
    refine lv_iconst (v := (5 : Int32)) hx hb dL_law_1188 (by decide) ?_
    refine lv_iadd hx hb dL_law_1189 ?_
    refine va_sld hx hb hX hbl hbA hS i5 dL_law_1190 ?_
    refine lv_if_eq (tgt := 1198) hx hb dL_law_1191 (by decide) (fun _ => ?_) (fun q => absurd hz q)
    refine lv_iconst (v := (0 : Int32)) hx hb dL_law_1198 (by decide) ?_
    refine rd_l (runV (As := [.int (xs (nI i + (1 : Int32)).toNatClampNeg), .int (xs (nI i + (2 : Int32)).toNatClampNeg), .int (xs (nI i + (3 : Int32)).toNatClampNeg), .int (xs (nI i + (4 : Int32)).toNatClampNeg), .int (0 : Int32)]) (rest := []) X cq_X8_boards lk_L_128 (c_X8_boards l D cI cJ cZ a ws0 (xs (nI i + (1 : Int32)).toNatClampNeg) (xs (nI i + (2 : Int32)).toNatClampNeg) (xs (nI i + (3 : Int32)).toNatClampNeg) (xs (nI i + (4 : Int32)).toNatClampNeg) (0 : Int32) u hu ) rfl rfl ⟨Nat.le_of_ble_eq_true rfl, Nat.le_of_ble_eq_true rfl⟩ hP h0 rfl rfl hl.1 rfl (Nat.le_of_ble_eq_true rfl) dL_law_1199 ⟨Nat.le_of_ble_eq_true rfl, Nat.le_of_ble_eq_true rfl⟩) ?_
    refine lv_aload_n hx hb dL_law_1202 rfl (lv_at hl 2 rfl) ?_
    refine lv_aload_n hx hb dL_law_1203 rfl (lv_at hl 0 rfl) ?_
    refine lv_iload_n hx hb dL_law_1204 rfl (lv_at hl 3 rfl) ?_
    refine lv_iconst (v := (1 : Int32)) hx hb dL_law_1205 (by decide) ?_
    refine lv_iadd hx hb dL_law_1206 ?_
    refine va_sld hx hb hX hbl hbA hS i1 dL_law_1207 ?_
    refine lv_aload_n hx hb dL_law_1208 rfl (lv_at hl 0 rfl) ?_
    refine lv_iload_n hx hb dL_law_1209 rfl (lv_at hl 3 rfl) ?_
    refine lv_iconst (v := (2 : Int32)) hx hb dL_law_1210 (by decide) ?_
    refine lv_iadd hx hb dL_law_1211 ?_
    refine va_sld hx hb hX hbl hbA hS i2 dL_law_1212 ?_
    refine lv_aload_n hx hb dL_law_1213 rfl (lv_at hl 0 rfl) ?_
    refine lv_iload_n hx hb dL_law_1214 rfl (lv_at hl 3 rfl) ?_
    refine lv_iconst (v := (3 : Int32)) hx hb dL_law_1215 (by decide) ?_
    refine lv_iadd hx hb dL_law_1216 ?_
    refine va_sld hx hb hX hbl hbA hS i3 dL_law_1217 ?_
    refine lv_aload_n hx hb dL_law_1218 rfl (lv_at hl 0 rfl) ?_
    refine lv_iload_n hx hb dL_law_1219 rfl (lv_at hl 3 rfl) ?_
    refine lv_iconst (v := (4 : Int32)) hx hb dL_law_1220 (by decide) ?_
    refine lv_iadd hx hb dL_law_1221 ?_
    refine va_sld hx hb hX hbl hbA hS i4 dL_law_1222 ?_
    refine lv_aload_n hx hb dL_law_1223 rfl (lv_at hl 0 rfl) ?_
    refine lv_iload_n hx hb dL_law_1224 rfl (lv_at hl 3 rfl) ?_
    refine lv_iconst (v := (5 : Int32)) hx hb dL_law_1225 (by decide) ?_
    refine lv_iadd hx hb dL_law_1226 ?_
    refine va_sld hx hb hX hbl hbA hS i5 dL_law_1227 ?_
    refine lv_if_eq (tgt := 1235) hx hb dL_law_1228 (by decide) (fun _ => ?_) (fun q => absurd hz q)
    refine lv_iconst (v := (0 : Int32)) hx hb dL_law_1235 (by decide) ?_
    refine rd_l (runV (As := [.int (xs (nI i + (1 : Int32)).toNatClampNeg), .int (xs (nI i + (2 : Int32)).toNatClampNeg), .int (xs (nI i + (3 : Int32)).toNatClampNeg), .int (xs (nI i + (4 : Int32)).toNatClampNeg), .int (0 : Int32)]) (rest := [.long u]) X cq_X9_boards lk_L_132 (c_X9_boards l D cI cJ cZ a ws0 (xs (nI i + (1 : Int32)).toNatClampNeg) (xs (nI i + (2 : Int32)).toNatClampNeg) (xs (nI i + (3 : Int32)).toNatClampNeg) (xs (nI i + (4 : Int32)).toNatClampNeg) (0 : Int32) v hv ) rfl rfl ⟨Nat.le_of_ble_eq_true rfl, Nat.le_of_ble_eq_true rfl⟩ hP h35 rfl rfl hl.1 rfl (Nat.le_of_ble_eq_true rfl) dL_law_1236 ⟨Nat.le_of_ble_eq_true rfl, Nat.le_of_ble_eq_true rfl⟩) ?_
    refine W.lcmp hx hb dL_law_1239 ?_
    refine lv_if_eq (tgt := 1535) hx hb dL_law_1240 (by decide) (fun _ => ?_) (fun q => absurd ((lc_eq _ _).mpr he) q)
    exact KK tx_length tx_bytes ro_pupils ro_mood ro_letters ro_rows ro_columns ro_tenths ro_needs ro_toldDares le_seed le_questions le_rightOnes le_wrongOnes le_isKept le_dares le_times ha_cells ch_pupils ch_rule ch_ranks ch_eligible ch_eligibleAndRight ch_cells s1_seed s1_questions s1_rightOnes s1_wrongOnes s1_isKept s1_dares s1_times s2_seed s2_questions s2_rightOnes s2_wrongOnes s2_isKept s2_dares s2_times ta_size ta_hands ta_ones ta_cells tr_waited tr_size tr_hands m_readMany m_pupils m_mood m_length m_at m_faultAt m_drawn m_questions m_rights m_wrongs m_tapes m_trials m_read m_pupil m_dares m_times m_text m_joint m_others m_tapeHands m_tapeTaken m_trialHands m_trialWaited m_isKept m_keptDares m_keptTimes m_keptDrawn m_keptLesson hR2 _ _ _ hP hD hS ⟨h0, h1, h2, h3, h4, h5, h6, h7, h8, h9, h10, h11, h12, h13, h14, h15, h16, h17, h18, h19, h20, h21, h22, h23, h24, h25, h26, h27, h28, h29, h30, h31, h32, h33, h34, h35, h36, h37, h38, h39, h40, h41, h42, h43, h44, h45, h46, h47, h48, h49, h50, h51⟩ ls hl
  · obtain ⟨u, v, hu, hv, he, hR2⟩ := P_boards i (by omega) tx_length tx_bytes ro_pupils ro_mood ro_letters ro_rows ro_columns ro_tenths ro_needs ro_toldDares le_seed le_questions le_rightOnes le_wrongOnes le_isKept le_dares le_times ha_cells ch_pupils ch_rule ch_ranks ch_eligible ch_eligibleAndRight ch_cells s1_seed s1_questions s1_rightOnes s1_wrongOnes s1_isKept s1_dares s1_times s2_seed s2_questions s2_rightOnes s2_wrongOnes s2_isKept s2_dares s2_times ta_size ta_hands ta_ones ta_cells tr_waited tr_size tr_hands m_readMany m_pupils m_mood m_length m_at m_faultAt m_drawn m_questions m_rights m_wrongs m_tapes m_trials m_read m_pupil m_dares m_times m_text m_joint m_others m_tapeHands m_tapeTaken m_trialHands m_trialWaited m_isKept m_keptDares m_keptTimes m_keptDrawn m_keptLesson (xs (nI i + (1 : Int32)).toNatClampNeg) (xs (nI i + (2 : Int32)).toNatClampNeg) (xs (nI i + (3 : Int32)).toNatClampNeg) (xs (nI i + (4 : Int32)).toNatClampNeg) (1 : Int32) (by decide) hR
    refine lv_aload_n hx hb dL_law_1165 rfl (lv_at hl 1 rfl) ?_
    refine lv_aload_n hx hb dL_law_1166 rfl (lv_at hl 0 rfl) ?_
    refine lv_iload_n hx hb dL_law_1167 rfl (lv_at hl 3 rfl) ?_
    refine lv_iconst (v := (1 : Int32)) hx hb dL_law_1168 (by decide) ?_
    refine lv_iadd hx hb dL_law_1169 ?_
    refine va_sld hx hb hX hbl hbA hS i1 dL_law_1170 ?_
    refine lv_aload_n hx hb dL_law_1171 rfl (lv_at hl 0 rfl) ?_
    refine lv_iload_n hx hb dL_law_1172 rfl (lv_at hl 3 rfl) ?_
    refine lv_iconst (v := (2 : Int32)) hx hb dL_law_1173 (by decide) ?_
    refine lv_iadd hx hb dL_law_1174 ?_
    refine va_sld hx hb hX hbl hbA hS i2 dL_law_1175 ?_
    refine lv_aload_n hx hb dL_law_1176 rfl (lv_at hl 0 rfl) ?_
    refine lv_iload_n hx hb dL_law_1177 rfl (lv_at hl 3 rfl) ?_
    refine lv_iconst (v := (3 : Int32)) hx hb dL_law_1178 (by decide) ?_
    refine lv_iadd hx hb dL_law_1179 ?_
    refine va_sld hx hb hX hbl hbA hS i3 dL_law_1180 ?_
    refine lv_aload_n hx hb dL_law_1181 rfl (lv_at hl 0 rfl) ?_
    refine lv_iload_n hx hb dL_law_1182 rfl (lv_at hl 3 rfl) ?_
    refine lv_iconst (v := (4 : Int32)) hx hb dL_law_1183 (by decide) ?_
    refine lv_iadd hx hb dL_law_1184 ?_
    refine va_sld hx hb hX hbl hbA hS i4 dL_law_1185 ?_
    refine lv_aload_n hx hb dL_law_1186 rfl (lv_at hl 0 rfl) ?_
    refine lv_iload_n hx hb dL_law_1187 rfl (lv_at hl 3 rfl) ?_
    refine lv_iconst (v := (5 : Int32)) hx hb dL_law_1188 (by decide) ?_
    refine lv_iadd hx hb dL_law_1189 ?_
    refine va_sld hx hb hX hbl hbA hS i5 dL_law_1190 ?_
    refine lv_if_eq (tgt := 1198) hx hb dL_law_1191 (by decide) (fun q => absurd q hz) (fun _ => ?_)
    refine lv_iconst (v := (1 : Int32)) hx hb dL_law_1194 (by decide) ?_
    refine lv_goto (tgt := 1199) hx hb dL_law_1195 (by decide) ?_
    refine rd_l (runV (As := [.int (xs (nI i + (1 : Int32)).toNatClampNeg), .int (xs (nI i + (2 : Int32)).toNatClampNeg), .int (xs (nI i + (3 : Int32)).toNatClampNeg), .int (xs (nI i + (4 : Int32)).toNatClampNeg), .int (1 : Int32)]) (rest := []) X cq_X8_boards lk_L_128 (c_X8_boards l D cI cJ cZ a ws0 (xs (nI i + (1 : Int32)).toNatClampNeg) (xs (nI i + (2 : Int32)).toNatClampNeg) (xs (nI i + (3 : Int32)).toNatClampNeg) (xs (nI i + (4 : Int32)).toNatClampNeg) (1 : Int32) u hu ) rfl rfl ⟨Nat.le_of_ble_eq_true rfl, Nat.le_of_ble_eq_true rfl⟩ hP h0 rfl rfl hl.1 rfl (Nat.le_of_ble_eq_true rfl) dL_law_1199 ⟨Nat.le_of_ble_eq_true rfl, Nat.le_of_ble_eq_true rfl⟩) ?_
    refine lv_aload_n hx hb dL_law_1202 rfl (lv_at hl 2 rfl) ?_
    refine lv_aload_n hx hb dL_law_1203 rfl (lv_at hl 0 rfl) ?_
    refine lv_iload_n hx hb dL_law_1204 rfl (lv_at hl 3 rfl) ?_
    refine lv_iconst (v := (1 : Int32)) hx hb dL_law_1205 (by decide) ?_
    refine lv_iadd hx hb dL_law_1206 ?_
    refine va_sld hx hb hX hbl hbA hS i1 dL_law_1207 ?_
    refine lv_aload_n hx hb dL_law_1208 rfl (lv_at hl 0 rfl) ?_
    refine lv_iload_n hx hb dL_law_1209 rfl (lv_at hl 3 rfl) ?_
    refine lv_iconst (v := (2 : Int32)) hx hb dL_law_1210 (by decide) ?_
    refine lv_iadd hx hb dL_law_1211 ?_
    refine va_sld hx hb hX hbl hbA hS i2 dL_law_1212 ?_
    refine lv_aload_n hx hb dL_law_1213 rfl (lv_at hl 0 rfl) ?_
    refine lv_iload_n hx hb dL_law_1214 rfl (lv_at hl 3 rfl) ?_
    refine lv_iconst (v := (3 : Int32)) hx hb dL_law_1215 (by decide) ?_
    refine lv_iadd hx hb dL_law_1216 ?_
    refine va_sld hx hb hX hbl hbA hS i3 dL_law_1217 ?_
    refine lv_aload_n hx hb dL_law_1218 rfl (lv_at hl 0 rfl) ?_
    refine lv_iload_n hx hb dL_law_1219 rfl (lv_at hl 3 rfl) ?_
    refine lv_iconst (v := (4 : Int32)) hx hb dL_law_1220 (by decide) ?_
    refine lv_iadd hx hb dL_law_1221 ?_
    refine va_sld hx hb hX hbl hbA hS i4 dL_law_1222 ?_
    refine lv_aload_n hx hb dL_law_1223 rfl (lv_at hl 0 rfl) ?_
    refine lv_iload_n hx hb dL_law_1224 rfl (lv_at hl 3 rfl) ?_
    refine lv_iconst (v := (5 : Int32)) hx hb dL_law_1225 (by decide) ?_
    refine lv_iadd hx hb dL_law_1226 ?_
    refine va_sld hx hb hX hbl hbA hS i5 dL_law_1227 ?_
    refine lv_if_eq (tgt := 1235) hx hb dL_law_1228 (by decide) (fun q => absurd q hz) (fun _ => ?_)
    refine lv_iconst (v := (1 : Int32)) hx hb dL_law_1231 (by decide) ?_
    refine lv_goto (tgt := 1236) hx hb dL_law_1232 (by decide) ?_
    refine rd_l (runV (As := [.int (xs (nI i + (1 : Int32)).toNatClampNeg), .int (xs (nI i + (2 : Int32)).toNatClampNeg), .int (xs (nI i + (3 : Int32)).toNatClampNeg), .int (xs (nI i + (4 : Int32)).toNatClampNeg), .int (1 : Int32)]) (rest := [.long u]) X cq_X9_boards lk_L_132 (c_X9_boards l D cI cJ cZ a ws0 (xs (nI i + (1 : Int32)).toNatClampNeg) (xs (nI i + (2 : Int32)).toNatClampNeg) (xs (nI i + (3 : Int32)).toNatClampNeg) (xs (nI i + (4 : Int32)).toNatClampNeg) (1 : Int32) v hv ) rfl rfl ⟨Nat.le_of_ble_eq_true rfl, Nat.le_of_ble_eq_true rfl⟩ hP h35 rfl rfl hl.1 rfl (Nat.le_of_ble_eq_true rfl) dL_law_1236 ⟨Nat.le_of_ble_eq_true rfl, Nat.le_of_ble_eq_true rfl⟩) ?_
    refine W.lcmp hx hb dL_law_1239 ?_
    refine lv_if_eq (tgt := 1535) hx hb dL_law_1240 (by decide) (fun _ => ?_) (fun q => absurd ((lc_eq _ _).mpr he) q)
    exact KK tx_length tx_bytes ro_pupils ro_mood ro_letters ro_rows ro_columns ro_tenths ro_needs ro_toldDares le_seed le_questions le_rightOnes le_wrongOnes le_isKept le_dares le_times ha_cells ch_pupils ch_rule ch_ranks ch_eligible ch_eligibleAndRight ch_cells s1_seed s1_questions s1_rightOnes s1_wrongOnes s1_isKept s1_dares s1_times s2_seed s2_questions s2_rightOnes s2_wrongOnes s2_isKept s2_dares s2_times ta_size ta_hands ta_ones ta_cells tr_waited tr_size tr_hands m_readMany m_pupils m_mood m_length m_at m_faultAt m_drawn m_questions m_rights m_wrongs m_tapes m_trials m_read m_pupil m_dares m_times m_text m_joint m_others m_tapeHands m_tapeTaken m_trialHands m_trialWaited m_isKept m_keptDares m_keptTimes m_keptDrawn m_keptLesson hR2 _ _ _ hP hD hS ⟨h0, h1, h2, h3, h4, h5, h6, h7, h8, h9, h10, h11, h12, h13, h14, h15, h16, h17, h18, h19, h20, h21, h22, h23, h24, h25, h26, h27, h28, h29, h30, h31, h32, h33, h34, h35, h36, h37, h38, h39, h40, h41, h42, h43, h44, h45, h46, h47, h48, h49, h50, h51⟩ ls hl
set_option maxHeartbeats 4000000 in
set_option maxRecDepth 100000 in
theorem case_27 {p : Program} {l : Launch} {e : Env} {s : State} {m : MethodId} {below : List Frame} {meth : Method} {c : Code} {D : va_G} {cI cJ cZ : ClassId} {a : Nat → Nat} {b L : Nat} {xs : Nat → Int32} (C0 : lw_At p s m meth c b L xs) (X : Cx yL_law code 4 ret D cI cJ cZ p s m #[Value.ref b] meth c) (i : Nat) (hi : i + 5 < L) (hL : L ≤ 3072) (tx_length : Int32) (tx_bytes : Nat → Int32) (ro_pupils : Int32) (ro_mood : Int32) (ro_letters : Nat → Int32) (ro_rows : Nat → Int32) (ro_columns : Nat → Int32) (ro_tenths : Nat → Int32) (ro_needs : Nat → Int32) (ro_toldDares : Nat → Int32) (le_seed : Int64) (le_questions : Int32) (le_rightOnes : Int32) (le_wrongOnes : Int32) (le_isKept : Int32) (le_dares : Nat → Int32) (le_times : Nat → Int32) (ha_cells : Nat → Int64) (ch_pupils : Int32) (ch_rule : Int32) (ch_ranks : Nat → Int32) (ch_eligible : Nat → Int32) (ch_eligibleAndRight : Nat → Int32) (ch_cells : Nat → Int64) (s1_seed : Int64) (s1_questions : Int32) (s1_rightOnes : Int32) (s1_wrongOnes : Int32) (s1_isKept : Int32) (s1_dares : Nat → Int32) (s1_times : Nat → Int32) (s2_seed : Int64) (s2_questions : Int32) (s2_rightOnes : Int32) (s2_wrongOnes : Int32) (s2_isKept : Int32) (s2_dares : Nat → Int32) (s2_times : Nat → Int32) (ta_size : Int32) (ta_hands : Nat → Int32) (ta_ones : Nat → Int32) (ta_cells : Nat → Int64) (tr_waited : Int32) (tr_size : Int32) (tr_hands : Nat → Int32) (m_readMany : Int32) (m_pupils : Int32) (m_mood : Int32) (m_length : Int32) (m_at : Int32) (m_faultAt : Int32) (m_drawn : Int64) (m_questions : Int32) (m_rights : Int32) (m_wrongs : Int32) (m_tapes : Int32) (m_trials : Int32) (m_read : Nat → Int32) (m_pupil : Nat → Int32) (m_dares : Nat → Int32) (m_times : Nat → Int32) (m_text : Nat → Int32) (m_joint : Nat → Int64) (m_others : Nat → Int64) (m_tapeHands : Nat → Int32) (m_tapeTaken : Nat → Int32) (m_trialHands : Nat → Int32) (m_trialWaited : Nat → Int32) (m_isKept : Nat → Int32) (m_keptDares : Nat → Int32) (m_keptTimes : Nat → Int32) (m_keptDrawn : Nat → Int64) (m_keptLesson : Nat → Int32) (hR : Rel i tx_length tx_bytes ro_pupils ro_mood ro_letters ro_rows ro_columns ro_tenths ro_needs ro_toldDares le_seed le_questions le_rightOnes le_wrongOnes le_dares le_times s1_seed s1_questions s1_rightOnes s1_wrongOnes s1_isKept s1_dares s1_times s2_seed s2_questions s2_rightOnes s2_wrongOnes s2_isKept s2_dares s2_times ta_size ta_hands ta_ones tr_waited tr_size tr_hands m_pupils m_mood m_length m_drawn m_questions m_rights m_wrongs m_tapes m_trials m_pupil m_dares m_times m_text m_tapeHands m_tapeTaken m_trialHands m_trialWaited m_isKept m_keptDares m_keptTimes m_keptDrawn m_keptLesson) (ws0 : va_W) (H : Heap) (locs : List Loc) (hP : va_P D vwCl ws0 H) (hD : va_D (fun q : Nat => s.heap.size ≤ q) ws0) (hS : va_S (fun q : Nat => s.heap.size ≤ q) s.heap H locs) (hw : wAll a cI cJ cZ ws0 tx_length tx_bytes ro_pupils ro_mood ro_letters ro_rows ro_columns ro_tenths ro_needs ro_toldDares le_seed le_questions le_rightOnes le_wrongOnes le_isKept le_dares le_times ha_cells ch_pupils ch_rule ch_ranks ch_eligible ch_eligibleAndRight ch_cells s1_seed s1_questions s1_rightOnes s1_wrongOnes s1_isKept s1_dares s1_times s2_seed s2_questions s2_rightOnes s2_wrongOnes s2_isKept s2_dares s2_times ta_size ta_hands ta_ones ta_cells tr_waited tr_size tr_hands m_readMany m_pupils m_mood m_length m_at m_faultAt m_drawn m_questions m_rights m_wrongs m_tapes m_trials m_read m_pupil m_dares m_times m_text m_joint m_others m_tapeHands m_tapeTaken m_trialHands m_trialWaited m_isKept m_keptDares m_keptTimes m_keptDrawn m_keptLesson) (ls : Array Slot) (hl : lv_has ls 4 [(0, .ref b), (1, .ref (a 0)), (2, .ref (a 35)), (3, .int (nI i))]) (KK : ∀ (tx_length : Int32) (tx_bytes : Nat → Int32) (ro_pupils : Int32) (ro_mood : Int32) (ro_letters : Nat → Int32) (ro_rows : Nat → Int32) (ro_columns : Nat → Int32) (ro_tenths : Nat → Int32) (ro_needs : Nat → Int32) (ro_toldDares : Nat → Int32) (le_seed : Int64) (le_questions : Int32) (le_rightOnes : Int32) (le_wrongOnes : Int32) (le_isKept : Int32) (le_dares : Nat → Int32) (le_times : Nat → Int32) (ha_cells : Nat → Int64) (ch_pupils : Int32) (ch_rule : Int32) (ch_ranks : Nat → Int32) (ch_eligible : Nat → Int32) (ch_eligibleAndRight : Nat → Int32) (ch_cells : Nat → Int64) (s1_seed : Int64) (s1_questions : Int32) (s1_rightOnes : Int32) (s1_wrongOnes : Int32) (s1_isKept : Int32) (s1_dares : Nat → Int32) (s1_times : Nat → Int32) (s2_seed : Int64) (s2_questions : Int32) (s2_rightOnes : Int32) (s2_wrongOnes : Int32) (s2_isKept : Int32) (s2_dares : Nat → Int32) (s2_times : Nat → Int32) (ta_size : Int32) (ta_hands : Nat → Int32) (ta_ones : Nat → Int32) (ta_cells : Nat → Int64) (tr_waited : Int32) (tr_size : Int32) (tr_hands : Nat → Int32) (m_readMany : Int32) (m_pupils : Int32) (m_mood : Int32) (m_length : Int32) (m_at : Int32) (m_faultAt : Int32) (m_drawn : Int64) (m_questions : Int32) (m_rights : Int32) (m_wrongs : Int32) (m_tapes : Int32) (m_trials : Int32) (m_read : Nat → Int32) (m_pupil : Nat → Int32) (m_dares : Nat → Int32) (m_times : Nat → Int32) (m_text : Nat → Int32) (m_joint : Nat → Int64) (m_others : Nat → Int64) (m_tapeHands : Nat → Int32) (m_tapeTaken : Nat → Int32) (m_trialHands : Nat → Int32) (m_trialWaited : Nat → Int32) (m_isKept : Nat → Int32) (m_keptDares : Nat → Int32) (m_keptTimes : Nat → Int32) (m_keptDrawn : Nat → Int64) (m_keptLesson : Nat → Int32), Rel (i + 1) tx_length tx_bytes ro_pupils ro_mood ro_letters ro_rows ro_columns ro_tenths ro_needs ro_toldDares le_seed le_questions le_rightOnes le_wrongOnes le_dares le_times s1_seed s1_questions s1_rightOnes s1_wrongOnes s1_isKept s1_dares s1_times s2_seed s2_questions s2_rightOnes s2_wrongOnes s2_isKept s2_dares s2_times ta_size ta_hands ta_ones tr_waited tr_size tr_hands m_pupils m_mood m_length m_drawn m_questions m_rights m_wrongs m_tapes m_trials m_pupil m_dares m_times m_text m_tapeHands m_tapeTaken m_trialHands m_trialWaited m_isKept m_keptDares m_keptTimes m_keptDrawn m_keptLesson → ∀ (w : va_W) (H : Heap) (locs : List Loc), va_P D vwCl w H → va_D (fun q : Nat => s.heap.size ≤ q) w → va_S (fun q : Nat => s.heap.size ≤ q) s.heap H locs → wAll a cI cJ cZ w tx_length tx_bytes ro_pupils ro_mood ro_letters ro_rows ro_columns ro_tenths ro_needs ro_toldDares le_seed le_questions le_rightOnes le_wrongOnes le_isKept le_dares le_times ha_cells ch_pupils ch_rule ch_ranks ch_eligible ch_eligibleAndRight ch_cells s1_seed s1_questions s1_rightOnes s1_wrongOnes s1_isKept s1_dares s1_times s2_seed s2_questions s2_rightOnes s2_wrongOnes s2_isKept s2_dares s2_times ta_size ta_hands ta_ones ta_cells tr_waited tr_size tr_hands m_readMany m_pupils m_mood m_length m_at m_faultAt m_drawn m_questions m_rights m_wrongs m_tapes m_trials m_read m_pupil m_dares m_times m_text m_joint m_others m_tapeHands m_tapeTaken m_trialHands m_trialWaited m_isKept m_keptDares m_keptTimes m_keptDrawn m_keptLesson → ∀ ls : Array Slot, lv_has ls 4 [(0, .ref b), (1, .ref (a 0)), (2, .ref (a 35)), (3, .int (nI i))] → W p l e room_1 s m #[Value.ref b] below meth c H locs 52 1402 (lw_Z below #[Value.ref b] s) (F0 m 1535 ls [])) : W p l e room_1 s m #[Value.ref b] below meth c H locs 52 1402 (lw_Z below #[Value.ref b] s) (F0 m 1245 ls []) := by
  obtain ⟨-, -, -, -, -, -, hX, hbl, -, -⟩ := C0
  obtain ⟨hx, hb, hr, hml, hown, hts, hlk, hK, hN⟩ := id X
  have hown : s.vm.findClass RL = some m.cls := hown
  have hbA : ¬ (fun q : Nat => s.heap.size ≤ q) b := Nat.not_le.mpr hbl
  obtain ⟨h0, h1, h2, h3, h4, h5, h6, h7, h8, h9, h10, h11, h12, h13, h14, h15, h16, h17, h18, h19, h20, h21, h22, h23, h24, h25, h26, h27, h28, h29, h30, h31, h32, h33, h34, h35, h36, h37, h38, h39, h40, h41, h42, h43, h44, h45, h46, h47, h48, h49, h50, h51⟩ := hw
  have i1 : vp_in (nI i + (1 : Int32)) L := by rw [show (1 : Int32) = nI 1 from rfl, nI_add]; exact vp_in_nI (by omega) (by omega)
  have i2 : vp_in (nI i + (2 : Int32)) L := by rw [show (2 : Int32) = nI 2 from rfl, nI_add]; exact vp_in_nI (by omega) (by omega)
  have i3 : vp_in (nI i + (3 : Int32)) L := by rw [show (3 : Int32) = nI 3 from rfl, nI_add]; exact vp_in_nI (by omega) (by omega)
  have i4 : vp_in (nI i + (4 : Int32)) L := by rw [show (4 : Int32) = nI 4 from rfl, nI_add]; exact vp_in_nI (by omega) (by omega)
  have i5 : vp_in (nI i + (5 : Int32)) L := by rw [show (5 : Int32) = nI 5 from rfl, nI_add]; exact vp_in_nI (by omega) (by omega)
  by_cases hz : xs (nI i + (4 : Int32)).toNatClampNeg = 0
  · obtain ⟨u, v, hu, hv, he, hR2⟩ := P_span i (by omega) tx_length tx_bytes ro_pupils ro_mood ro_letters ro_rows ro_columns ro_tenths ro_needs ro_toldDares le_seed le_questions le_rightOnes le_wrongOnes le_isKept le_dares le_times ha_cells ch_pupils ch_rule ch_ranks ch_eligible ch_eligibleAndRight ch_cells s1_seed s1_questions s1_rightOnes s1_wrongOnes s1_isKept s1_dares s1_times s2_seed s2_questions s2_rightOnes s2_wrongOnes s2_isKept s2_dares s2_times ta_size ta_hands ta_ones ta_cells tr_waited tr_size tr_hands m_readMany m_pupils m_mood m_length m_at m_faultAt m_drawn m_questions m_rights m_wrongs m_tapes m_trials m_read m_pupil m_dares m_times m_text m_joint m_others m_tapeHands m_tapeTaken m_trialHands m_trialWaited m_isKept m_keptDares m_keptTimes m_keptDrawn m_keptLesson (xs (nI i + (1 : Int32)).toNatClampNeg) (xs (nI i + (2 : Int32)).toNatClampNeg) (xs (nI i + (3 : Int32)).toNatClampNeg) (0 : Int32) (by decide) hR
    refine lv_aload_n hx hb dL_law_1245 rfl (lv_at hl 1 rfl) ?_
    refine lv_aload_n hx hb dL_law_1246 rfl (lv_at hl 0 rfl) ?_
    refine lv_iload_n hx hb dL_law_1247 rfl (lv_at hl 3 rfl) ?_
    refine lv_iconst (v := (1 : Int32)) hx hb dL_law_1248 (by decide) ?_
    refine lv_iadd hx hb dL_law_1249 ?_
    refine va_sld hx hb hX hbl hbA hS i1 dL_law_1250 ?_
    refine lv_aload_n hx hb dL_law_1251 rfl (lv_at hl 0 rfl) ?_
    refine lv_iload_n hx hb dL_law_1252 rfl (lv_at hl 3 rfl) ?_
    refine lv_iconst (v := (2 : Int32)) hx hb dL_law_1253 (by decide) ?_
    refine lv_iadd hx hb dL_law_1254 ?_
    refine va_sld hx hb hX hbl hbA hS i2 dL_law_1255 ?_
    refine lv_aload_n hx hb dL_law_1256 rfl (lv_at hl 0 rfl) ?_
    refine lv_iload_n hx hb dL_law_1257 rfl (lv_at hl 3 rfl) ?_
    refine lv_iconst (v := (3 : Int32)) hx hb dL_law_1258 (by decide) ?_
    refine lv_iadd hx hb dL_law_1259 ?_
    refine va_sld hx hb hX hbl hbA hS i3 dL_law_1260 ?_
    refine lv_aload_n hx hb dL_law_1261 rfl (lv_at hl 0 rfl) ?_
    refine lv_iload_n hx hb dL_law_1262 rfl (lv_at hl 3 rfl) ?_
    refine lv_iconst (v := (4 : Int32)) hx hb dL_law_1263 (by decide) ?_
    refine lv_iadd hx hb dL_law_1264 ?_
    refine va_sld hx hb hX hbl hbA hS i4 dL_law_1265 ?_
    refine lv_if_eq (tgt := 1273) hx hb dL_law_1266 (by decide) (fun _ => ?_) (fun q => absurd hz q)
    refine lv_iconst (v := (0 : Int32)) hx hb dL_law_1273 (by decide) ?_
    refine rd_i (runV (As := [.int (xs (nI i + (1 : Int32)).toNatClampNeg), .int (xs (nI i + (2 : Int32)).toNatClampNeg), .int (xs (nI i + (3 : Int32)).toNatClampNeg), .int (0 : Int32)]) (rest := []) X cq_X8_span lk_L_133 (c_X8_span l D cI cJ cZ a ws0 (xs (nI i + (1 : Int32)).toNatClampNeg) (xs (nI i + (2 : Int32)).toNatClampNeg) (xs (nI i + (3 : Int32)).toNatClampNeg) (0 : Int32) u hu ) rfl rfl ⟨Nat.le_of_ble_eq_true rfl, Nat.le_of_ble_eq_true rfl⟩ hP h0 rfl rfl hl.1 rfl (Nat.le_of_ble_eq_true rfl) dL_law_1274 ⟨Nat.le_of_ble_eq_true rfl, Nat.le_of_ble_eq_true rfl⟩) ?_
    refine lv_aload_n hx hb dL_law_1277 rfl (lv_at hl 2 rfl) ?_
    refine lv_aload_n hx hb dL_law_1278 rfl (lv_at hl 0 rfl) ?_
    refine lv_iload_n hx hb dL_law_1279 rfl (lv_at hl 3 rfl) ?_
    refine lv_iconst (v := (1 : Int32)) hx hb dL_law_1280 (by decide) ?_
    refine lv_iadd hx hb dL_law_1281 ?_
    refine va_sld hx hb hX hbl hbA hS i1 dL_law_1282 ?_
    refine lv_aload_n hx hb dL_law_1283 rfl (lv_at hl 0 rfl) ?_
    refine lv_iload_n hx hb dL_law_1284 rfl (lv_at hl 3 rfl) ?_
    refine lv_iconst (v := (2 : Int32)) hx hb dL_law_1285 (by decide) ?_
    refine lv_iadd hx hb dL_law_1286 ?_
    refine va_sld hx hb hX hbl hbA hS i2 dL_law_1287 ?_
    refine lv_aload_n hx hb dL_law_1288 rfl (lv_at hl 0 rfl) ?_
    refine lv_iload_n hx hb dL_law_1289 rfl (lv_at hl 3 rfl) ?_
    refine lv_iconst (v := (3 : Int32)) hx hb dL_law_1290 (by decide) ?_
    refine lv_iadd hx hb dL_law_1291 ?_
    refine va_sld hx hb hX hbl hbA hS i3 dL_law_1292 ?_
    refine lv_aload_n hx hb dL_law_1293 rfl (lv_at hl 0 rfl) ?_
    refine lv_iload_n hx hb dL_law_1294 rfl (lv_at hl 3 rfl) ?_
    refine lv_iconst (v := (4 : Int32)) hx hb dL_law_1295 (by decide) ?_
    refine lv_iadd hx hb dL_law_1296 ?_
    refine va_sld hx hb hX hbl hbA hS i4 dL_law_1297 ?_
    refine lv_if_eq (tgt := 1305) hx hb dL_law_1298 (by decide) (fun _ => ?_) (fun q => absurd hz q)
    refine lv_iconst (v := (0 : Int32)) hx hb dL_law_1305 (by decide) ?_
    refine rd_i (runV (As := [.int (xs (nI i + (1 : Int32)).toNatClampNeg), .int (xs (nI i + (2 : Int32)).toNatClampNeg), .int (xs (nI i + (3 : Int32)).toNatClampNeg), .int (0 : Int32)]) (rest := [.int u]) X cq_X9_span lk_L_136 (c_X9_span l D cI cJ cZ a ws0 (xs (nI i + (1 : Int32)).toNatClampNeg) (xs (nI i + (2 : Int32)).toNatClampNeg) (xs (nI i + (3 : Int32)).toNatClampNeg) (0 : Int32) v hv ) rfl rfl ⟨Nat.le_of_ble_eq_true rfl, Nat.le_of_ble_eq_true rfl⟩ hP h35 rfl rfl hl.1 rfl (Nat.le_of_ble_eq_true rfl) dL_law_1306 ⟨Nat.le_of_ble_eq_true rfl, Nat.le_of_ble_eq_true rfl⟩) ?_
    refine lv_icmp_eq (tgt := 1535) hx hb dL_law_1309 (by decide) (fun _ => ?_) (fun q => absurd he q)
    exact KK tx_length tx_bytes ro_pupils ro_mood ro_letters ro_rows ro_columns ro_tenths ro_needs ro_toldDares le_seed le_questions le_rightOnes le_wrongOnes le_isKept le_dares le_times ha_cells ch_pupils ch_rule ch_ranks ch_eligible ch_eligibleAndRight ch_cells s1_seed s1_questions s1_rightOnes s1_wrongOnes s1_isKept s1_dares s1_times s2_seed s2_questions s2_rightOnes s2_wrongOnes s2_isKept s2_dares s2_times ta_size ta_hands ta_ones ta_cells tr_waited tr_size tr_hands m_readMany m_pupils m_mood m_length m_at m_faultAt m_drawn m_questions m_rights m_wrongs m_tapes m_trials m_read m_pupil m_dares m_times m_text m_joint m_others m_tapeHands m_tapeTaken m_trialHands m_trialWaited m_isKept m_keptDares m_keptTimes m_keptDrawn m_keptLesson hR2 _ _ _ hP hD hS ⟨h0, h1, h2, h3, h4, h5, h6, h7, h8, h9, h10, h11, h12, h13, h14, h15, h16, h17, h18, h19, h20, h21, h22, h23, h24, h25, h26, h27, h28, h29, h30, h31, h32, h33, h34, h35, h36, h37, h38, h39, h40, h41, h42, h43, h44, h45, h46, h47, h48, h49, h50, h51⟩ ls hl
  · obtain ⟨u, v, hu, hv, he, hR2⟩ := P_span i (by omega) tx_length tx_bytes ro_pupils ro_mood ro_letters ro_rows ro_columns ro_tenths ro_needs ro_toldDares le_seed le_questions le_rightOnes le_wrongOnes le_isKept le_dares le_times ha_cells ch_pupils ch_rule ch_ranks ch_eligible ch_eligibleAndRight ch_cells s1_seed s1_questions s1_rightOnes s1_wrongOnes s1_isKept s1_dares s1_times s2_seed s2_questions s2_rightOnes s2_wrongOnes s2_isKept s2_dares s2_times ta_size ta_hands ta_ones ta_cells tr_waited tr_size tr_hands m_readMany m_pupils m_mood m_length m_at m_faultAt m_drawn m_questions m_rights m_wrongs m_tapes m_trials m_read m_pupil m_dares m_times m_text m_joint m_others m_tapeHands m_tapeTaken m_trialHands m_trialWaited m_isKept m_keptDares m_keptTimes m_keptDrawn m_keptLesson (xs (nI i + (1 : Int32)).toNatClampNeg) (xs (nI i + (2 : Int32)).toNatClampNeg) (xs (nI i + (3 : Int32)).toNatClampNeg) (1 : Int32) (by decide) hR
    refine lv_aload_n hx hb dL_law_1245 rfl (lv_at hl 1 rfl) ?_
    refine lv_aload_n hx hb dL_law_1246 rfl (lv_at hl 0 rfl) ?_
    refine lv_iload_n hx hb dL_law_1247 rfl (lv_at hl 3 rfl) ?_
    refine lv_iconst (v := (1 : Int32)) hx hb dL_law_1248 (by decide) ?_
    refine lv_iadd hx hb dL_law_1249 ?_
    refine va_sld hx hb hX hbl hbA hS i1 dL_law_1250 ?_
    refine lv_aload_n hx hb dL_law_1251 rfl (lv_at hl 0 rfl) ?_
    refine lv_iload_n hx hb dL_law_1252 rfl (lv_at hl 3 rfl) ?_
    refine lv_iconst (v := (2 : Int32)) hx hb dL_law_1253 (by decide) ?_
    refine lv_iadd hx hb dL_law_1254 ?_
    refine va_sld hx hb hX hbl hbA hS i2 dL_law_1255 ?_
    refine lv_aload_n hx hb dL_law_1256 rfl (lv_at hl 0 rfl) ?_
    refine lv_iload_n hx hb dL_law_1257 rfl (lv_at hl 3 rfl) ?_
    refine lv_iconst (v := (3 : Int32)) hx hb dL_law_1258 (by decide) ?_
    refine lv_iadd hx hb dL_law_1259 ?_
    refine va_sld hx hb hX hbl hbA hS i3 dL_law_1260 ?_
    refine lv_aload_n hx hb dL_law_1261 rfl (lv_at hl 0 rfl) ?_
    refine lv_iload_n hx hb dL_law_1262 rfl (lv_at hl 3 rfl) ?_
    refine lv_iconst (v := (4 : Int32)) hx hb dL_law_1263 (by decide) ?_
    refine lv_iadd hx hb dL_law_1264 ?_
    refine va_sld hx hb hX hbl hbA hS i4 dL_law_1265 ?_
    refine lv_if_eq (tgt := 1273) hx hb dL_law_1266 (by decide) (fun q => absurd q hz) (fun _ => ?_)
    refine lv_iconst (v := (1 : Int32)) hx hb dL_law_1269 (by decide) ?_
    refine lv_goto (tgt := 1274) hx hb dL_law_1270 (by decide) ?_
    refine rd_i (runV (As := [.int (xs (nI i + (1 : Int32)).toNatClampNeg), .int (xs (nI i + (2 : Int32)).toNatClampNeg), .int (xs (nI i + (3 : Int32)).toNatClampNeg), .int (1 : Int32)]) (rest := []) X cq_X8_span lk_L_133 (c_X8_span l D cI cJ cZ a ws0 (xs (nI i + (1 : Int32)).toNatClampNeg) (xs (nI i + (2 : Int32)).toNatClampNeg) (xs (nI i + (3 : Int32)).toNatClampNeg) (1 : Int32) u hu ) rfl rfl ⟨Nat.le_of_ble_eq_true rfl, Nat.le_of_ble_eq_true rfl⟩ hP h0 rfl rfl hl.1 rfl (Nat.le_of_ble_eq_true rfl) dL_law_1274 ⟨Nat.le_of_ble_eq_true rfl, Nat.le_of_ble_eq_true rfl⟩) ?_
    refine lv_aload_n hx hb dL_law_1277 rfl (lv_at hl 2 rfl) ?_
    refine lv_aload_n hx hb dL_law_1278 rfl (lv_at hl 0 rfl) ?_
    refine lv_iload_n hx hb dL_law_1279 rfl (lv_at hl 3 rfl) ?_
    refine lv_iconst (v := (1 : Int32)) hx hb dL_law_1280 (by decide) ?_
    refine lv_iadd hx hb dL_law_1281 ?_
    refine va_sld hx hb hX hbl hbA hS i1 dL_law_1282 ?_
    refine lv_aload_n hx hb dL_law_1283 rfl (lv_at hl 0 rfl) ?_
    refine lv_iload_n hx hb dL_law_1284 rfl (lv_at hl 3 rfl) ?_
    refine lv_iconst (v := (2 : Int32)) hx hb dL_law_1285 (by decide) ?_
    refine lv_iadd hx hb dL_law_1286 ?_
    refine va_sld hx hb hX hbl hbA hS i2 dL_law_1287 ?_
    refine lv_aload_n hx hb dL_law_1288 rfl (lv_at hl 0 rfl) ?_
    refine lv_iload_n hx hb dL_law_1289 rfl (lv_at hl 3 rfl) ?_
    refine lv_iconst (v := (3 : Int32)) hx hb dL_law_1290 (by decide) ?_
    refine lv_iadd hx hb dL_law_1291 ?_
    refine va_sld hx hb hX hbl hbA hS i3 dL_law_1292 ?_
    refine lv_aload_n hx hb dL_law_1293 rfl (lv_at hl 0 rfl) ?_
    refine lv_iload_n hx hb dL_law_1294 rfl (lv_at hl 3 rfl) ?_
    refine lv_iconst (v := (4 : Int32)) hx hb dL_law_1295 (by decide) ?_
    refine lv_iadd hx hb dL_law_1296 ?_
    refine va_sld hx hb hX hbl hbA hS i4 dL_law_1297 ?_
    refine lv_if_eq (tgt := 1305) hx hb dL_law_1298 (by decide) (fun q => absurd q hz) (fun _ => ?_)
    refine lv_iconst (v := (1 : Int32)) hx hb dL_law_1301 (by decide) ?_
    refine lv_goto (tgt := 1306) hx hb dL_law_1302 (by decide) ?_
    refine rd_i (runV (As := [.int (xs (nI i + (1 : Int32)).toNatClampNeg), .int (xs (nI i + (2 : Int32)).toNatClampNeg), .int (xs (nI i + (3 : Int32)).toNatClampNeg), .int (1 : Int32)]) (rest := [.int u]) X cq_X9_span lk_L_136 (c_X9_span l D cI cJ cZ a ws0 (xs (nI i + (1 : Int32)).toNatClampNeg) (xs (nI i + (2 : Int32)).toNatClampNeg) (xs (nI i + (3 : Int32)).toNatClampNeg) (1 : Int32) v hv ) rfl rfl ⟨Nat.le_of_ble_eq_true rfl, Nat.le_of_ble_eq_true rfl⟩ hP h35 rfl rfl hl.1 rfl (Nat.le_of_ble_eq_true rfl) dL_law_1306 ⟨Nat.le_of_ble_eq_true rfl, Nat.le_of_ble_eq_true rfl⟩) ?_
    refine lv_icmp_eq (tgt := 1535) hx hb dL_law_1309 (by decide) (fun _ => ?_) (fun q => absurd he q)
    exact KK tx_length tx_bytes ro_pupils ro_mood ro_letters ro_rows ro_columns ro_tenths ro_needs ro_toldDares le_seed le_questions le_rightOnes le_wrongOnes le_isKept le_dares le_times ha_cells ch_pupils ch_rule ch_ranks ch_eligible ch_eligibleAndRight ch_cells s1_seed s1_questions s1_rightOnes s1_wrongOnes s1_isKept s1_dares s1_times s2_seed s2_questions s2_rightOnes s2_wrongOnes s2_isKept s2_dares s2_times ta_size ta_hands ta_ones ta_cells tr_waited tr_size tr_hands m_readMany m_pupils m_mood m_length m_at m_faultAt m_drawn m_questions m_rights m_wrongs m_tapes m_trials m_read m_pupil m_dares m_times m_text m_joint m_others m_tapeHands m_tapeTaken m_trialHands m_trialWaited m_isKept m_keptDares m_keptTimes m_keptDrawn m_keptLesson hR2 _ _ _ hP hD hS ⟨h0, h1, h2, h3, h4, h5, h6, h7, h8, h9, h10, h11, h12, h13, h14, h15, h16, h17, h18, h19, h20, h21, h22, h23, h24, h25, h26, h27, h28, h29, h30, h31, h32, h33, h34, h35, h36, h37, h38, h39, h40, h41, h42, h43, h44, h45, h46, h47, h48, h49, h50, h51⟩ ls hl
set_option maxHeartbeats 4000000 in
set_option maxRecDepth 100000 in
theorem case_28 {p : Program} {l : Launch} {e : Env} {s : State} {m : MethodId} {below : List Frame} {meth : Method} {c : Code} {D : va_G} {cI cJ cZ : ClassId} {a : Nat → Nat} {b L : Nat} {xs : Nat → Int32} (C0 : lw_At p s m meth c b L xs) (X : Cx yL_law code 4 ret D cI cJ cZ p s m #[Value.ref b] meth c) (i : Nat) (hi : i + 5 < L) (hL : L ≤ 3072) (tx_length : Int32) (tx_bytes : Nat → Int32) (ro_pupils : Int32) (ro_mood : Int32) (ro_letters : Nat → Int32) (ro_rows : Nat → Int32) (ro_columns : Nat → Int32) (ro_tenths : Nat → Int32) (ro_needs : Nat → Int32) (ro_toldDares : Nat → Int32) (le_seed : Int64) (le_questions : Int32) (le_rightOnes : Int32) (le_wrongOnes : Int32) (le_isKept : Int32) (le_dares : Nat → Int32) (le_times : Nat → Int32) (ha_cells : Nat → Int64) (ch_pupils : Int32) (ch_rule : Int32) (ch_ranks : Nat → Int32) (ch_eligible : Nat → Int32) (ch_eligibleAndRight : Nat → Int32) (ch_cells : Nat → Int64) (s1_seed : Int64) (s1_questions : Int32) (s1_rightOnes : Int32) (s1_wrongOnes : Int32) (s1_isKept : Int32) (s1_dares : Nat → Int32) (s1_times : Nat → Int32) (s2_seed : Int64) (s2_questions : Int32) (s2_rightOnes : Int32) (s2_wrongOnes : Int32) (s2_isKept : Int32) (s2_dares : Nat → Int32) (s2_times : Nat → Int32) (ta_size : Int32) (ta_hands : Nat → Int32) (ta_ones : Nat → Int32) (ta_cells : Nat → Int64) (tr_waited : Int32) (tr_size : Int32) (tr_hands : Nat → Int32) (m_readMany : Int32) (m_pupils : Int32) (m_mood : Int32) (m_length : Int32) (m_at : Int32) (m_faultAt : Int32) (m_drawn : Int64) (m_questions : Int32) (m_rights : Int32) (m_wrongs : Int32) (m_tapes : Int32) (m_trials : Int32) (m_read : Nat → Int32) (m_pupil : Nat → Int32) (m_dares : Nat → Int32) (m_times : Nat → Int32) (m_text : Nat → Int32) (m_joint : Nat → Int64) (m_others : Nat → Int64) (m_tapeHands : Nat → Int32) (m_tapeTaken : Nat → Int32) (m_trialHands : Nat → Int32) (m_trialWaited : Nat → Int32) (m_isKept : Nat → Int32) (m_keptDares : Nat → Int32) (m_keptTimes : Nat → Int32) (m_keptDrawn : Nat → Int64) (m_keptLesson : Nat → Int32) (hR : Rel i tx_length tx_bytes ro_pupils ro_mood ro_letters ro_rows ro_columns ro_tenths ro_needs ro_toldDares le_seed le_questions le_rightOnes le_wrongOnes le_dares le_times s1_seed s1_questions s1_rightOnes s1_wrongOnes s1_isKept s1_dares s1_times s2_seed s2_questions s2_rightOnes s2_wrongOnes s2_isKept s2_dares s2_times ta_size ta_hands ta_ones tr_waited tr_size tr_hands m_pupils m_mood m_length m_drawn m_questions m_rights m_wrongs m_tapes m_trials m_pupil m_dares m_times m_text m_tapeHands m_tapeTaken m_trialHands m_trialWaited m_isKept m_keptDares m_keptTimes m_keptDrawn m_keptLesson) (ws0 : va_W) (H : Heap) (locs : List Loc) (hP : va_P D vwCl ws0 H) (hD : va_D (fun q : Nat => s.heap.size ≤ q) ws0) (hS : va_S (fun q : Nat => s.heap.size ≤ q) s.heap H locs) (hw : wAll a cI cJ cZ ws0 tx_length tx_bytes ro_pupils ro_mood ro_letters ro_rows ro_columns ro_tenths ro_needs ro_toldDares le_seed le_questions le_rightOnes le_wrongOnes le_isKept le_dares le_times ha_cells ch_pupils ch_rule ch_ranks ch_eligible ch_eligibleAndRight ch_cells s1_seed s1_questions s1_rightOnes s1_wrongOnes s1_isKept s1_dares s1_times s2_seed s2_questions s2_rightOnes s2_wrongOnes s2_isKept s2_dares s2_times ta_size ta_hands ta_ones ta_cells tr_waited tr_size tr_hands m_readMany m_pupils m_mood m_length m_at m_faultAt m_drawn m_questions m_rights m_wrongs m_tapes m_trials m_read m_pupil m_dares m_times m_text m_joint m_others m_tapeHands m_tapeTaken m_trialHands m_trialWaited m_isKept m_keptDares m_keptTimes m_keptDrawn m_keptLesson) (ls : Array Slot) (hl : lv_has ls 4 [(0, .ref b), (1, .ref (a 0)), (2, .ref (a 35)), (3, .int (nI i))]) (KK : ∀ (tx_length : Int32) (tx_bytes : Nat → Int32) (ro_pupils : Int32) (ro_mood : Int32) (ro_letters : Nat → Int32) (ro_rows : Nat → Int32) (ro_columns : Nat → Int32) (ro_tenths : Nat → Int32) (ro_needs : Nat → Int32) (ro_toldDares : Nat → Int32) (le_seed : Int64) (le_questions : Int32) (le_rightOnes : Int32) (le_wrongOnes : Int32) (le_isKept : Int32) (le_dares : Nat → Int32) (le_times : Nat → Int32) (ha_cells : Nat → Int64) (ch_pupils : Int32) (ch_rule : Int32) (ch_ranks : Nat → Int32) (ch_eligible : Nat → Int32) (ch_eligibleAndRight : Nat → Int32) (ch_cells : Nat → Int64) (s1_seed : Int64) (s1_questions : Int32) (s1_rightOnes : Int32) (s1_wrongOnes : Int32) (s1_isKept : Int32) (s1_dares : Nat → Int32) (s1_times : Nat → Int32) (s2_seed : Int64) (s2_questions : Int32) (s2_rightOnes : Int32) (s2_wrongOnes : Int32) (s2_isKept : Int32) (s2_dares : Nat → Int32) (s2_times : Nat → Int32) (ta_size : Int32) (ta_hands : Nat → Int32) (ta_ones : Nat → Int32) (ta_cells : Nat → Int64) (tr_waited : Int32) (tr_size : Int32) (tr_hands : Nat → Int32) (m_readMany : Int32) (m_pupils : Int32) (m_mood : Int32) (m_length : Int32) (m_at : Int32) (m_faultAt : Int32) (m_drawn : Int64) (m_questions : Int32) (m_rights : Int32) (m_wrongs : Int32) (m_tapes : Int32) (m_trials : Int32) (m_read : Nat → Int32) (m_pupil : Nat → Int32) (m_dares : Nat → Int32) (m_times : Nat → Int32) (m_text : Nat → Int32) (m_joint : Nat → Int64) (m_others : Nat → Int64) (m_tapeHands : Nat → Int32) (m_tapeTaken : Nat → Int32) (m_trialHands : Nat → Int32) (m_trialWaited : Nat → Int32) (m_isKept : Nat → Int32) (m_keptDares : Nat → Int32) (m_keptTimes : Nat → Int32) (m_keptDrawn : Nat → Int64) (m_keptLesson : Nat → Int32), Rel (i + 1) tx_length tx_bytes ro_pupils ro_mood ro_letters ro_rows ro_columns ro_tenths ro_needs ro_toldDares le_seed le_questions le_rightOnes le_wrongOnes le_dares le_times s1_seed s1_questions s1_rightOnes s1_wrongOnes s1_isKept s1_dares s1_times s2_seed s2_questions s2_rightOnes s2_wrongOnes s2_isKept s2_dares s2_times ta_size ta_hands ta_ones tr_waited tr_size tr_hands m_pupils m_mood m_length m_drawn m_questions m_rights m_wrongs m_tapes m_trials m_pupil m_dares m_times m_text m_tapeHands m_tapeTaken m_trialHands m_trialWaited m_isKept m_keptDares m_keptTimes m_keptDrawn m_keptLesson → ∀ (w : va_W) (H : Heap) (locs : List Loc), va_P D vwCl w H → va_D (fun q : Nat => s.heap.size ≤ q) w → va_S (fun q : Nat => s.heap.size ≤ q) s.heap H locs → wAll a cI cJ cZ w tx_length tx_bytes ro_pupils ro_mood ro_letters ro_rows ro_columns ro_tenths ro_needs ro_toldDares le_seed le_questions le_rightOnes le_wrongOnes le_isKept le_dares le_times ha_cells ch_pupils ch_rule ch_ranks ch_eligible ch_eligibleAndRight ch_cells s1_seed s1_questions s1_rightOnes s1_wrongOnes s1_isKept s1_dares s1_times s2_seed s2_questions s2_rightOnes s2_wrongOnes s2_isKept s2_dares s2_times ta_size ta_hands ta_ones ta_cells tr_waited tr_size tr_hands m_readMany m_pupils m_mood m_length m_at m_faultAt m_drawn m_questions m_rights m_wrongs m_tapes m_trials m_read m_pupil m_dares m_times m_text m_joint m_others m_tapeHands m_tapeTaken m_trialHands m_trialWaited m_isKept m_keptDares m_keptTimes m_keptDrawn m_keptLesson → ∀ ls : Array Slot, lv_has ls 4 [(0, .ref b), (1, .ref (a 0)), (2, .ref (a 35)), (3, .int (nI i))] → W p l e room_1 s m #[Value.ref b] below meth c H locs 52 1402 (lw_Z below #[Value.ref b] s) (F0 m 1535 ls [])) : W p l e room_1 s m #[Value.ref b] below meth c H locs 52 1402 (lw_Z below #[Value.ref b] s) (F0 m 1314 ls []) := by
  obtain ⟨-, -, -, -, -, -, hX, hbl, -, -⟩ := C0
  obtain ⟨hx, hb, hr, hml, hown, hts, hlk, hK, hN⟩ := id X
  have hown : s.vm.findClass RL = some m.cls := hown
  have hbA : ¬ (fun q : Nat => s.heap.size ≤ q) b := Nat.not_le.mpr hbl
  obtain ⟨h0, h1, h2, h3, h4, h5, h6, h7, h8, h9, h10, h11, h12, h13, h14, h15, h16, h17, h18, h19, h20, h21, h22, h23, h24, h25, h26, h27, h28, h29, h30, h31, h32, h33, h34, h35, h36, h37, h38, h39, h40, h41, h42, h43, h44, h45, h46, h47, h48, h49, h50, h51⟩ := hw
  have i1 : vp_in (nI i + (1 : Int32)) L := by rw [show (1 : Int32) = nI 1 from rfl, nI_add]; exact vp_in_nI (by omega) (by omega)
  have i2 : vp_in (nI i + (2 : Int32)) L := by rw [show (2 : Int32) = nI 2 from rfl, nI_add]; exact vp_in_nI (by omega) (by omega)
  have i3 : vp_in (nI i + (3 : Int32)) L := by rw [show (3 : Int32) = nI 3 from rfl, nI_add]; exact vp_in_nI (by omega) (by omega)
  have i4 : vp_in (nI i + (4 : Int32)) L := by rw [show (4 : Int32) = nI 4 from rfl, nI_add]; exact vp_in_nI (by omega) (by omega)
  have i5 : vp_in (nI i + (5 : Int32)) L := by rw [show (5 : Int32) = nI 5 from rfl, nI_add]; exact vp_in_nI (by omega) (by omega)
  by_cases hz : xs (nI i + (2 : Int32)).toNatClampNeg = 0
  · obtain ⟨u, v, hu, hv, he, hR2⟩ := P_trial i (by omega) tx_length tx_bytes ro_pupils ro_mood ro_letters ro_rows ro_columns ro_tenths ro_needs ro_toldDares le_seed le_questions le_rightOnes le_wrongOnes le_isKept le_dares le_times ha_cells ch_pupils ch_rule ch_ranks ch_eligible ch_eligibleAndRight ch_cells s1_seed s1_questions s1_rightOnes s1_wrongOnes s1_isKept s1_dares s1_times s2_seed s2_questions s2_rightOnes s2_wrongOnes s2_isKept s2_dares s2_times ta_size ta_hands ta_ones ta_cells tr_waited tr_size tr_hands m_readMany m_pupils m_mood m_length m_at m_faultAt m_drawn m_questions m_rights m_wrongs m_tapes m_trials m_read m_pupil m_dares m_times m_text m_joint m_others m_tapeHands m_tapeTaken m_trialHands m_trialWaited m_isKept m_keptDares m_keptTimes m_keptDrawn m_keptLesson (xs (nI i + (1 : Int32)).toNatClampNeg) (0 : Int32) (by decide) hR
    refine lv_aload_n hx hb dL_law_1314 rfl (lv_at hl 1 rfl) ?_
    refine lv_aload_n hx hb dL_law_1315 rfl (lv_at hl 0 rfl) ?_
    refine lv_iload_n hx hb dL_law_1316 rfl (lv_at hl 3 rfl) ?_
    refine lv_iconst (v := (1 : Int32)) hx hb dL_law_1317 (by decide) ?_
    refine lv_iadd hx hb dL_law_1318 ?_
    refine va_sld hx hb hX hbl hbA hS i1 dL_law_1319 ?_
    refine lv_aload_n hx hb dL_law_1320 rfl (lv_at hl 0 rfl) ?_
    refine lv_iload_n hx hb dL_law_1321 rfl (lv_at hl 3 rfl) ?_
    refine lv_iconst (v := (2 : Int32)) hx hb dL_law_1322 (by decide) ?_
    refine lv_iadd hx hb dL_law_1323 ?_
    refine va_sld hx hb hX hbl hbA hS i2 dL_law_1324 ?_
    refine lv_if_eq (tgt := 1332) hx hb dL_law_1325 (by decide) (fun _ => ?_) (fun q => absurd hz q)
    refine lv_iconst (v := (0 : Int32)) hx hb dL_law_1332 (by decide) ?_
    refine wr_i (runV (As := [.int (xs (nI i + (1 : Int32)).toNatClampNeg), .int (0 : Int32)]) (rest := []) X cq_X8_trial lk_L_137 (c_X8_trial l D cI cJ cZ a ws0 (fun q : Nat => s.heap.size ≤ q) tr_waited tr_size tr_hands (xs (nI i + (1 : Int32)).toNatClampNeg) (0 : Int32) u hu h0 h33 h34 hD) rfl rfl ⟨Nat.le_of_ble_eq_true rfl, Nat.le_of_ble_eq_true rfl⟩ hP h0 rfl rfl hl.1 rfl (Nat.le_of_ble_eq_true rfl) dL_law_1333 ⟨Nat.le_of_ble_eq_true rfl, Nat.le_of_ble_eq_true rfl⟩) hS (fun w1 H locs hP hD hk hB hS => ?_)
    obtain ⟨hB0, hB1⟩ := hB
    have h34 : w1[34]? = some (a 34, .inl (cI, 10, .inl u.2.1)) := hB0
    have h33 : w1[33]? = some (a 33, .inr (7, [.ref (a 34), .int u.2.2.2, .int u.2.2.1])) := hB1
    have h0 := (hk 0 (by decide)).trans h0
    have h1 := (hk 1 (by decide)).trans h1
    have h2 := (hk 2 (by decide)).trans h2
    have h3 := (hk 3 (by decide)).trans h3
    have h4 := (hk 4 (by decide)).trans h4
    have h5 := (hk 5 (by decide)).trans h5
    have h6 := (hk 6 (by decide)).trans h6
    have h7 := (hk 7 (by decide)).trans h7
    have h8 := (hk 8 (by decide)).trans h8
    have h9 := (hk 9 (by decide)).trans h9
    have h10 := (hk 10 (by decide)).trans h10
    have h11 := (hk 11 (by decide)).trans h11
    have h12 := (hk 12 (by decide)).trans h12
    have h13 := (hk 13 (by decide)).trans h13
    have h14 := (hk 14 (by decide)).trans h14
    have h15 := (hk 15 (by decide)).trans h15
    have h16 := (hk 16 (by decide)).trans h16
    have h17 := (hk 17 (by decide)).trans h17
    have h18 := (hk 18 (by decide)).trans h18
    have h19 := (hk 19 (by decide)).trans h19
    have h20 := (hk 20 (by decide)).trans h20
    have h21 := (hk 21 (by decide)).trans h21
    have h22 := (hk 22 (by decide)).trans h22
    have h23 := (hk 23 (by decide)).trans h23
    have h24 := (hk 24 (by decide)).trans h24
    have h25 := (hk 25 (by decide)).trans h25
    have h26 := (hk 26 (by decide)).trans h26
    have h27 := (hk 27 (by decide)).trans h27
    have h28 := (hk 28 (by decide)).trans h28
    have h29 := (hk 29 (by decide)).trans h29
    have h30 := (hk 30 (by decide)).trans h30
    have h31 := (hk 31 (by decide)).trans h31
    have h32 := (hk 32 (by decide)).trans h32
    have h35 := (hk 35 (by decide)).trans h35
    have h36 := (hk 36 (by decide)).trans h36
    have h37 := (hk 37 (by decide)).trans h37
    have h38 := (hk 38 (by decide)).trans h38
    have h39 := (hk 39 (by decide)).trans h39
    have h40 := (hk 40 (by decide)).trans h40
    have h41 := (hk 41 (by decide)).trans h41
    have h42 := (hk 42 (by decide)).trans h42
    have h43 := (hk 43 (by decide)).trans h43
    have h44 := (hk 44 (by decide)).trans h44
    have h45 := (hk 45 (by decide)).trans h45
    have h46 := (hk 46 (by decide)).trans h46
    have h47 := (hk 47 (by decide)).trans h47
    have h48 := (hk 48 (by decide)).trans h48
    have h49 := (hk 49 (by decide)).trans h49
    have h50 := (hk 50 (by decide)).trans h50
    have h51 := (hk 51 (by decide)).trans h51
    refine lv_aload_n hx hb dL_law_1336 rfl (lv_at hl 2 rfl) ?_
    refine lv_aload_n hx hb dL_law_1337 rfl (lv_at hl 0 rfl) ?_
    refine lv_iload_n hx hb dL_law_1338 rfl (lv_at hl 3 rfl) ?_
    refine lv_iconst (v := (1 : Int32)) hx hb dL_law_1339 (by decide) ?_
    refine lv_iadd hx hb dL_law_1340 ?_
    refine va_sld hx hb hX hbl hbA hS i1 dL_law_1341 ?_
    refine lv_aload_n hx hb dL_law_1342 rfl (lv_at hl 0 rfl) ?_
    refine lv_iload_n hx hb dL_law_1343 rfl (lv_at hl 3 rfl) ?_
    refine lv_iconst (v := (2 : Int32)) hx hb dL_law_1344 (by decide) ?_
    refine lv_iadd hx hb dL_law_1345 ?_
    refine va_sld hx hb hX hbl hbA hS i2 dL_law_1346 ?_
    refine lv_if_eq (tgt := 1354) hx hb dL_law_1347 (by decide) (fun _ => ?_) (fun q => absurd hz q)
    refine lv_iconst (v := (0 : Int32)) hx hb dL_law_1354 (by decide) ?_
    refine wr_i (runV (As := [.int (xs (nI i + (1 : Int32)).toNatClampNeg), .int (0 : Int32)]) (rest := [.int u.1]) X cq_X9_trial lk_L_141 (c_X9_trial l D cI cJ cZ a w1 (fun q : Nat => s.heap.size ≤ q) m_readMany m_pupils m_mood m_length m_at m_faultAt m_drawn m_questions m_rights m_wrongs m_tapes m_trials m_trialHands m_trialWaited (xs (nI i + (1 : Int32)).toNatClampNeg) (0 : Int32) v hv h35 h45 h46 hD) rfl rfl ⟨Nat.le_of_ble_eq_true rfl, Nat.le_of_ble_eq_true rfl⟩ hP h35 rfl rfl hl.1 rfl (Nat.le_of_ble_eq_true rfl) dL_law_1355 ⟨Nat.le_of_ble_eq_true rfl, Nat.le_of_ble_eq_true rfl⟩) hS (fun w2 H locs hP hD hk hB hS => ?_)
    obtain ⟨hB0, hB1, hB2⟩ := hB
    have h45 : w2[45]? = some (a 45, .inl (cI, 10, .inl v.2.1)) := hB0
    have h46 : w2[46]? = some (a 46, .inl (cZ, 10, .inl v.2.2.1)) := hB1
    have h35 : w2[35]? = some (a 35, .inr (9, [.ref (a 36), .int m_readMany, .ref (a 37), .int m_pupils, .ref (a 38), .ref (a 39), .int m_mood, .ref (a 40), .int m_length, .int m_at, .int m_faultAt, .ref (a 41), .ref (a 42), .long m_drawn, .int m_questions, .int m_rights, .int m_wrongs, .int m_tapes, .ref (a 43), .ref (a 44), .int v.2.2.2, .ref (a 45), .ref (a 46), .ref (a 47), .ref (a 48), .ref (a 49), .ref (a 50), .ref (a 51)])) := hB2
    have h0 := (hk 0 (by decide)).trans h0
    have h1 := (hk 1 (by decide)).trans h1
    have h2 := (hk 2 (by decide)).trans h2
    have h3 := (hk 3 (by decide)).trans h3
    have h4 := (hk 4 (by decide)).trans h4
    have h5 := (hk 5 (by decide)).trans h5
    have h6 := (hk 6 (by decide)).trans h6
    have h7 := (hk 7 (by decide)).trans h7
    have h8 := (hk 8 (by decide)).trans h8
    have h9 := (hk 9 (by decide)).trans h9
    have h10 := (hk 10 (by decide)).trans h10
    have h11 := (hk 11 (by decide)).trans h11
    have h12 := (hk 12 (by decide)).trans h12
    have h13 := (hk 13 (by decide)).trans h13
    have h14 := (hk 14 (by decide)).trans h14
    have h15 := (hk 15 (by decide)).trans h15
    have h16 := (hk 16 (by decide)).trans h16
    have h17 := (hk 17 (by decide)).trans h17
    have h18 := (hk 18 (by decide)).trans h18
    have h19 := (hk 19 (by decide)).trans h19
    have h20 := (hk 20 (by decide)).trans h20
    have h21 := (hk 21 (by decide)).trans h21
    have h22 := (hk 22 (by decide)).trans h22
    have h23 := (hk 23 (by decide)).trans h23
    have h24 := (hk 24 (by decide)).trans h24
    have h25 := (hk 25 (by decide)).trans h25
    have h26 := (hk 26 (by decide)).trans h26
    have h27 := (hk 27 (by decide)).trans h27
    have h28 := (hk 28 (by decide)).trans h28
    have h29 := (hk 29 (by decide)).trans h29
    have h30 := (hk 30 (by decide)).trans h30
    have h31 := (hk 31 (by decide)).trans h31
    have h32 := (hk 32 (by decide)).trans h32
    have h33 := (hk 33 (by decide)).trans h33
    have h34 := (hk 34 (by decide)).trans h34
    have h36 := (hk 36 (by decide)).trans h36
    have h37 := (hk 37 (by decide)).trans h37
    have h38 := (hk 38 (by decide)).trans h38
    have h39 := (hk 39 (by decide)).trans h39
    have h40 := (hk 40 (by decide)).trans h40
    have h41 := (hk 41 (by decide)).trans h41
    have h42 := (hk 42 (by decide)).trans h42
    have h43 := (hk 43 (by decide)).trans h43
    have h44 := (hk 44 (by decide)).trans h44
    have h47 := (hk 47 (by decide)).trans h47
    have h48 := (hk 48 (by decide)).trans h48
    have h49 := (hk 49 (by decide)).trans h49
    have h50 := (hk 50 (by decide)).trans h50
    have h51 := (hk 51 (by decide)).trans h51
    refine lv_icmp_eq (tgt := 1535) hx hb dL_law_1358 (by decide) (fun _ => ?_) (fun q => absurd he q)
    exact KK tx_length tx_bytes ro_pupils ro_mood ro_letters ro_rows ro_columns ro_tenths ro_needs ro_toldDares le_seed le_questions le_rightOnes le_wrongOnes le_isKept le_dares le_times ha_cells ch_pupils ch_rule ch_ranks ch_eligible ch_eligibleAndRight ch_cells s1_seed s1_questions s1_rightOnes s1_wrongOnes s1_isKept s1_dares s1_times s2_seed s2_questions s2_rightOnes s2_wrongOnes s2_isKept s2_dares s2_times ta_size ta_hands ta_ones ta_cells u.2.2.2 u.2.2.1 u.2.1 m_readMany m_pupils m_mood m_length m_at m_faultAt m_drawn m_questions m_rights m_wrongs m_tapes v.2.2.2 m_read m_pupil m_dares m_times m_text m_joint m_others m_tapeHands m_tapeTaken v.2.1 v.2.2.1 m_isKept m_keptDares m_keptTimes m_keptDrawn m_keptLesson hR2 _ _ _ hP hD hS ⟨h0, h1, h2, h3, h4, h5, h6, h7, h8, h9, h10, h11, h12, h13, h14, h15, h16, h17, h18, h19, h20, h21, h22, h23, h24, h25, h26, h27, h28, h29, h30, h31, h32, h33, h34, h35, h36, h37, h38, h39, h40, h41, h42, h43, h44, h45, h46, h47, h48, h49, h50, h51⟩ ls hl
  · obtain ⟨u, v, hu, hv, he, hR2⟩ := P_trial i (by omega) tx_length tx_bytes ro_pupils ro_mood ro_letters ro_rows ro_columns ro_tenths ro_needs ro_toldDares le_seed le_questions le_rightOnes le_wrongOnes le_isKept le_dares le_times ha_cells ch_pupils ch_rule ch_ranks ch_eligible ch_eligibleAndRight ch_cells s1_seed s1_questions s1_rightOnes s1_wrongOnes s1_isKept s1_dares s1_times s2_seed s2_questions s2_rightOnes s2_wrongOnes s2_isKept s2_dares s2_times ta_size ta_hands ta_ones ta_cells tr_waited tr_size tr_hands m_readMany m_pupils m_mood m_length m_at m_faultAt m_drawn m_questions m_rights m_wrongs m_tapes m_trials m_read m_pupil m_dares m_times m_text m_joint m_others m_tapeHands m_tapeTaken m_trialHands m_trialWaited m_isKept m_keptDares m_keptTimes m_keptDrawn m_keptLesson (xs (nI i + (1 : Int32)).toNatClampNeg) (1 : Int32) (by decide) hR
    refine lv_aload_n hx hb dL_law_1314 rfl (lv_at hl 1 rfl) ?_
    refine lv_aload_n hx hb dL_law_1315 rfl (lv_at hl 0 rfl) ?_
    refine lv_iload_n hx hb dL_law_1316 rfl (lv_at hl 3 rfl) ?_
    refine lv_iconst (v := (1 : Int32)) hx hb dL_law_1317 (by decide) ?_
    refine lv_iadd hx hb dL_law_1318 ?_
    refine va_sld hx hb hX hbl hbA hS i1 dL_law_1319 ?_
    refine lv_aload_n hx hb dL_law_1320 rfl (lv_at hl 0 rfl) ?_
    refine lv_iload_n hx hb dL_law_1321 rfl (lv_at hl 3 rfl) ?_
    refine lv_iconst (v := (2 : Int32)) hx hb dL_law_1322 (by decide) ?_
    refine lv_iadd hx hb dL_law_1323 ?_
    refine va_sld hx hb hX hbl hbA hS i2 dL_law_1324 ?_
    refine lv_if_eq (tgt := 1332) hx hb dL_law_1325 (by decide) (fun q => absurd q hz) (fun _ => ?_)
    refine lv_iconst (v := (1 : Int32)) hx hb dL_law_1328 (by decide) ?_
    refine lv_goto (tgt := 1333) hx hb dL_law_1329 (by decide) ?_
    refine wr_i (runV (As := [.int (xs (nI i + (1 : Int32)).toNatClampNeg), .int (1 : Int32)]) (rest := []) X cq_X8_trial lk_L_137 (c_X8_trial l D cI cJ cZ a ws0 (fun q : Nat => s.heap.size ≤ q) tr_waited tr_size tr_hands (xs (nI i + (1 : Int32)).toNatClampNeg) (1 : Int32) u hu h0 h33 h34 hD) rfl rfl ⟨Nat.le_of_ble_eq_true rfl, Nat.le_of_ble_eq_true rfl⟩ hP h0 rfl rfl hl.1 rfl (Nat.le_of_ble_eq_true rfl) dL_law_1333 ⟨Nat.le_of_ble_eq_true rfl, Nat.le_of_ble_eq_true rfl⟩) hS (fun w1 H locs hP hD hk hB hS => ?_)
    obtain ⟨hB0, hB1⟩ := hB
    have h34 : w1[34]? = some (a 34, .inl (cI, 10, .inl u.2.1)) := hB0
    have h33 : w1[33]? = some (a 33, .inr (7, [.ref (a 34), .int u.2.2.2, .int u.2.2.1])) := hB1
    have h0 := (hk 0 (by decide)).trans h0
    have h1 := (hk 1 (by decide)).trans h1
    have h2 := (hk 2 (by decide)).trans h2
    have h3 := (hk 3 (by decide)).trans h3
    have h4 := (hk 4 (by decide)).trans h4
    have h5 := (hk 5 (by decide)).trans h5
    have h6 := (hk 6 (by decide)).trans h6
    have h7 := (hk 7 (by decide)).trans h7
    have h8 := (hk 8 (by decide)).trans h8
    have h9 := (hk 9 (by decide)).trans h9
    have h10 := (hk 10 (by decide)).trans h10
    have h11 := (hk 11 (by decide)).trans h11
    have h12 := (hk 12 (by decide)).trans h12
    have h13 := (hk 13 (by decide)).trans h13
    have h14 := (hk 14 (by decide)).trans h14
    have h15 := (hk 15 (by decide)).trans h15
    have h16 := (hk 16 (by decide)).trans h16
    have h17 := (hk 17 (by decide)).trans h17
    have h18 := (hk 18 (by decide)).trans h18
    have h19 := (hk 19 (by decide)).trans h19
    have h20 := (hk 20 (by decide)).trans h20
    have h21 := (hk 21 (by decide)).trans h21
    have h22 := (hk 22 (by decide)).trans h22
    have h23 := (hk 23 (by decide)).trans h23
    have h24 := (hk 24 (by decide)).trans h24
    have h25 := (hk 25 (by decide)).trans h25
    have h26 := (hk 26 (by decide)).trans h26
    have h27 := (hk 27 (by decide)).trans h27
    have h28 := (hk 28 (by decide)).trans h28
    have h29 := (hk 29 (by decide)).trans h29
    have h30 := (hk 30 (by decide)).trans h30
    have h31 := (hk 31 (by decide)).trans h31
    have h32 := (hk 32 (by decide)).trans h32
    have h35 := (hk 35 (by decide)).trans h35
    have h36 := (hk 36 (by decide)).trans h36
    have h37 := (hk 37 (by decide)).trans h37
    have h38 := (hk 38 (by decide)).trans h38
    have h39 := (hk 39 (by decide)).trans h39
    have h40 := (hk 40 (by decide)).trans h40
    have h41 := (hk 41 (by decide)).trans h41
    have h42 := (hk 42 (by decide)).trans h42
    have h43 := (hk 43 (by decide)).trans h43
    have h44 := (hk 44 (by decide)).trans h44
    have h45 := (hk 45 (by decide)).trans h45
    have h46 := (hk 46 (by decide)).trans h46
    have h47 := (hk 47 (by decide)).trans h47
    have h48 := (hk 48 (by decide)).trans h48
    have h49 := (hk 49 (by decide)).trans h49
    have h50 := (hk 50 (by decide)).trans h50
    have h51 := (hk 51 (by decide)).trans h51
    refine lv_aload_n hx hb dL_law_1336 rfl (lv_at hl 2 rfl) ?_
    refine lv_aload_n hx hb dL_law_1337 rfl (lv_at hl 0 rfl) ?_
    refine lv_iload_n hx hb dL_law_1338 rfl (lv_at hl 3 rfl) ?_
    refine lv_iconst (v := (1 : Int32)) hx hb dL_law_1339 (by decide) ?_
    refine lv_iadd hx hb dL_law_1340 ?_
    refine va_sld hx hb hX hbl hbA hS i1 dL_law_1341 ?_
    refine lv_aload_n hx hb dL_law_1342 rfl (lv_at hl 0 rfl) ?_
    refine lv_iload_n hx hb dL_law_1343 rfl (lv_at hl 3 rfl) ?_
    refine lv_iconst (v := (2 : Int32)) hx hb dL_law_1344 (by decide) ?_
    refine lv_iadd hx hb dL_law_1345 ?_
    refine va_sld hx hb hX hbl hbA hS i2 dL_law_1346 ?_
    refine lv_if_eq (tgt := 1354) hx hb dL_law_1347 (by decide) (fun q => absurd q hz) (fun _ => ?_)
    refine lv_iconst (v := (1 : Int32)) hx hb dL_law_1350 (by decide) ?_
    refine lv_goto (tgt := 1355) hx hb dL_law_1351 (by decide) ?_
    refine wr_i (runV (As := [.int (xs (nI i + (1 : Int32)).toNatClampNeg), .int (1 : Int32)]) (rest := [.int u.1]) X cq_X9_trial lk_L_141 (c_X9_trial l D cI cJ cZ a w1 (fun q : Nat => s.heap.size ≤ q) m_readMany m_pupils m_mood m_length m_at m_faultAt m_drawn m_questions m_rights m_wrongs m_tapes m_trials m_trialHands m_trialWaited (xs (nI i + (1 : Int32)).toNatClampNeg) (1 : Int32) v hv h35 h45 h46 hD) rfl rfl ⟨Nat.le_of_ble_eq_true rfl, Nat.le_of_ble_eq_true rfl⟩ hP h35 rfl rfl hl.1 rfl (Nat.le_of_ble_eq_true rfl) dL_law_1355 ⟨Nat.le_of_ble_eq_true rfl, Nat.le_of_ble_eq_true rfl⟩) hS (fun w2 H locs hP hD hk hB hS => ?_)
    obtain ⟨hB0, hB1, hB2⟩ := hB
    have h45 : w2[45]? = some (a 45, .inl (cI, 10, .inl v.2.1)) := hB0
    have h46 : w2[46]? = some (a 46, .inl (cZ, 10, .inl v.2.2.1)) := hB1
    have h35 : w2[35]? = some (a 35, .inr (9, [.ref (a 36), .int m_readMany, .ref (a 37), .int m_pupils, .ref (a 38), .ref (a 39), .int m_mood, .ref (a 40), .int m_length, .int m_at, .int m_faultAt, .ref (a 41), .ref (a 42), .long m_drawn, .int m_questions, .int m_rights, .int m_wrongs, .int m_tapes, .ref (a 43), .ref (a 44), .int v.2.2.2, .ref (a 45), .ref (a 46), .ref (a 47), .ref (a 48), .ref (a 49), .ref (a 50), .ref (a 51)])) := hB2
    have h0 := (hk 0 (by decide)).trans h0
    have h1 := (hk 1 (by decide)).trans h1
    have h2 := (hk 2 (by decide)).trans h2
    have h3 := (hk 3 (by decide)).trans h3
    have h4 := (hk 4 (by decide)).trans h4
    have h5 := (hk 5 (by decide)).trans h5
    have h6 := (hk 6 (by decide)).trans h6
    have h7 := (hk 7 (by decide)).trans h7
    have h8 := (hk 8 (by decide)).trans h8
    have h9 := (hk 9 (by decide)).trans h9
    have h10 := (hk 10 (by decide)).trans h10
    have h11 := (hk 11 (by decide)).trans h11
    have h12 := (hk 12 (by decide)).trans h12
    have h13 := (hk 13 (by decide)).trans h13
    have h14 := (hk 14 (by decide)).trans h14
    have h15 := (hk 15 (by decide)).trans h15
    have h16 := (hk 16 (by decide)).trans h16
    have h17 := (hk 17 (by decide)).trans h17
    have h18 := (hk 18 (by decide)).trans h18
    have h19 := (hk 19 (by decide)).trans h19
    have h20 := (hk 20 (by decide)).trans h20
    have h21 := (hk 21 (by decide)).trans h21
    have h22 := (hk 22 (by decide)).trans h22
    have h23 := (hk 23 (by decide)).trans h23
    have h24 := (hk 24 (by decide)).trans h24
    have h25 := (hk 25 (by decide)).trans h25
    have h26 := (hk 26 (by decide)).trans h26
    have h27 := (hk 27 (by decide)).trans h27
    have h28 := (hk 28 (by decide)).trans h28
    have h29 := (hk 29 (by decide)).trans h29
    have h30 := (hk 30 (by decide)).trans h30
    have h31 := (hk 31 (by decide)).trans h31
    have h32 := (hk 32 (by decide)).trans h32
    have h33 := (hk 33 (by decide)).trans h33
    have h34 := (hk 34 (by decide)).trans h34
    have h36 := (hk 36 (by decide)).trans h36
    have h37 := (hk 37 (by decide)).trans h37
    have h38 := (hk 38 (by decide)).trans h38
    have h39 := (hk 39 (by decide)).trans h39
    have h40 := (hk 40 (by decide)).trans h40
    have h41 := (hk 41 (by decide)).trans h41
    have h42 := (hk 42 (by decide)).trans h42
    have h43 := (hk 43 (by decide)).trans h43
    have h44 := (hk 44 (by decide)).trans h44
    have h47 := (hk 47 (by decide)).trans h47
    have h48 := (hk 48 (by decide)).trans h48
    have h49 := (hk 49 (by decide)).trans h49
    have h50 := (hk 50 (by decide)).trans h50
    have h51 := (hk 51 (by decide)).trans h51
    refine lv_icmp_eq (tgt := 1535) hx hb dL_law_1358 (by decide) (fun _ => ?_) (fun q => absurd he q)
    exact KK tx_length tx_bytes ro_pupils ro_mood ro_letters ro_rows ro_columns ro_tenths ro_needs ro_toldDares le_seed le_questions le_rightOnes le_wrongOnes le_isKept le_dares le_times ha_cells ch_pupils ch_rule ch_ranks ch_eligible ch_eligibleAndRight ch_cells s1_seed s1_questions s1_rightOnes s1_wrongOnes s1_isKept s1_dares s1_times s2_seed s2_questions s2_rightOnes s2_wrongOnes s2_isKept s2_dares s2_times ta_size ta_hands ta_ones ta_cells u.2.2.2 u.2.2.1 u.2.1 m_readMany m_pupils m_mood m_length m_at m_faultAt m_drawn m_questions m_rights m_wrongs m_tapes v.2.2.2 m_read m_pupil m_dares m_times m_text m_joint m_others m_tapeHands m_tapeTaken v.2.1 v.2.2.1 m_isKept m_keptDares m_keptTimes m_keptDrawn m_keptLesson hR2 _ _ _ hP hD hS ⟨h0, h1, h2, h3, h4, h5, h6, h7, h8, h9, h10, h11, h12, h13, h14, h15, h16, h17, h18, h19, h20, h21, h22, h23, h24, h25, h26, h27, h28, h29, h30, h31, h32, h33, h34, h35, h36, h37, h38, h39, h40, h41, h42, h43, h44, h45, h46, h47, h48, h49, h50, h51⟩ ls hl
set_option maxHeartbeats 4000000 in
set_option maxRecDepth 100000 in
theorem case_29 {p : Program} {l : Launch} {e : Env} {s : State} {m : MethodId} {below : List Frame} {meth : Method} {c : Code} {D : va_G} {cI cJ cZ : ClassId} {a : Nat → Nat} {b L : Nat} {xs : Nat → Int32} (C0 : lw_At p s m meth c b L xs) (X : Cx yL_law code 4 ret D cI cJ cZ p s m #[Value.ref b] meth c) (i : Nat) (hi : i + 5 < L) (hL : L ≤ 3072) (tx_length : Int32) (tx_bytes : Nat → Int32) (ro_pupils : Int32) (ro_mood : Int32) (ro_letters : Nat → Int32) (ro_rows : Nat → Int32) (ro_columns : Nat → Int32) (ro_tenths : Nat → Int32) (ro_needs : Nat → Int32) (ro_toldDares : Nat → Int32) (le_seed : Int64) (le_questions : Int32) (le_rightOnes : Int32) (le_wrongOnes : Int32) (le_isKept : Int32) (le_dares : Nat → Int32) (le_times : Nat → Int32) (ha_cells : Nat → Int64) (ch_pupils : Int32) (ch_rule : Int32) (ch_ranks : Nat → Int32) (ch_eligible : Nat → Int32) (ch_eligibleAndRight : Nat → Int32) (ch_cells : Nat → Int64) (s1_seed : Int64) (s1_questions : Int32) (s1_rightOnes : Int32) (s1_wrongOnes : Int32) (s1_isKept : Int32) (s1_dares : Nat → Int32) (s1_times : Nat → Int32) (s2_seed : Int64) (s2_questions : Int32) (s2_rightOnes : Int32) (s2_wrongOnes : Int32) (s2_isKept : Int32) (s2_dares : Nat → Int32) (s2_times : Nat → Int32) (ta_size : Int32) (ta_hands : Nat → Int32) (ta_ones : Nat → Int32) (ta_cells : Nat → Int64) (tr_waited : Int32) (tr_size : Int32) (tr_hands : Nat → Int32) (m_readMany : Int32) (m_pupils : Int32) (m_mood : Int32) (m_length : Int32) (m_at : Int32) (m_faultAt : Int32) (m_drawn : Int64) (m_questions : Int32) (m_rights : Int32) (m_wrongs : Int32) (m_tapes : Int32) (m_trials : Int32) (m_read : Nat → Int32) (m_pupil : Nat → Int32) (m_dares : Nat → Int32) (m_times : Nat → Int32) (m_text : Nat → Int32) (m_joint : Nat → Int64) (m_others : Nat → Int64) (m_tapeHands : Nat → Int32) (m_tapeTaken : Nat → Int32) (m_trialHands : Nat → Int32) (m_trialWaited : Nat → Int32) (m_isKept : Nat → Int32) (m_keptDares : Nat → Int32) (m_keptTimes : Nat → Int32) (m_keptDrawn : Nat → Int64) (m_keptLesson : Nat → Int32) (hR : Rel i tx_length tx_bytes ro_pupils ro_mood ro_letters ro_rows ro_columns ro_tenths ro_needs ro_toldDares le_seed le_questions le_rightOnes le_wrongOnes le_dares le_times s1_seed s1_questions s1_rightOnes s1_wrongOnes s1_isKept s1_dares s1_times s2_seed s2_questions s2_rightOnes s2_wrongOnes s2_isKept s2_dares s2_times ta_size ta_hands ta_ones tr_waited tr_size tr_hands m_pupils m_mood m_length m_drawn m_questions m_rights m_wrongs m_tapes m_trials m_pupil m_dares m_times m_text m_tapeHands m_tapeTaken m_trialHands m_trialWaited m_isKept m_keptDares m_keptTimes m_keptDrawn m_keptLesson) (ws0 : va_W) (H : Heap) (locs : List Loc) (hP : va_P D vwCl ws0 H) (hD : va_D (fun q : Nat => s.heap.size ≤ q) ws0) (hS : va_S (fun q : Nat => s.heap.size ≤ q) s.heap H locs) (hw : wAll a cI cJ cZ ws0 tx_length tx_bytes ro_pupils ro_mood ro_letters ro_rows ro_columns ro_tenths ro_needs ro_toldDares le_seed le_questions le_rightOnes le_wrongOnes le_isKept le_dares le_times ha_cells ch_pupils ch_rule ch_ranks ch_eligible ch_eligibleAndRight ch_cells s1_seed s1_questions s1_rightOnes s1_wrongOnes s1_isKept s1_dares s1_times s2_seed s2_questions s2_rightOnes s2_wrongOnes s2_isKept s2_dares s2_times ta_size ta_hands ta_ones ta_cells tr_waited tr_size tr_hands m_readMany m_pupils m_mood m_length m_at m_faultAt m_drawn m_questions m_rights m_wrongs m_tapes m_trials m_read m_pupil m_dares m_times m_text m_joint m_others m_tapeHands m_tapeTaken m_trialHands m_trialWaited m_isKept m_keptDares m_keptTimes m_keptDrawn m_keptLesson) (ls : Array Slot) (hl : lv_has ls 4 [(0, .ref b), (1, .ref (a 0)), (2, .ref (a 35)), (3, .int (nI i))]) (KK : ∀ (tx_length : Int32) (tx_bytes : Nat → Int32) (ro_pupils : Int32) (ro_mood : Int32) (ro_letters : Nat → Int32) (ro_rows : Nat → Int32) (ro_columns : Nat → Int32) (ro_tenths : Nat → Int32) (ro_needs : Nat → Int32) (ro_toldDares : Nat → Int32) (le_seed : Int64) (le_questions : Int32) (le_rightOnes : Int32) (le_wrongOnes : Int32) (le_isKept : Int32) (le_dares : Nat → Int32) (le_times : Nat → Int32) (ha_cells : Nat → Int64) (ch_pupils : Int32) (ch_rule : Int32) (ch_ranks : Nat → Int32) (ch_eligible : Nat → Int32) (ch_eligibleAndRight : Nat → Int32) (ch_cells : Nat → Int64) (s1_seed : Int64) (s1_questions : Int32) (s1_rightOnes : Int32) (s1_wrongOnes : Int32) (s1_isKept : Int32) (s1_dares : Nat → Int32) (s1_times : Nat → Int32) (s2_seed : Int64) (s2_questions : Int32) (s2_rightOnes : Int32) (s2_wrongOnes : Int32) (s2_isKept : Int32) (s2_dares : Nat → Int32) (s2_times : Nat → Int32) (ta_size : Int32) (ta_hands : Nat → Int32) (ta_ones : Nat → Int32) (ta_cells : Nat → Int64) (tr_waited : Int32) (tr_size : Int32) (tr_hands : Nat → Int32) (m_readMany : Int32) (m_pupils : Int32) (m_mood : Int32) (m_length : Int32) (m_at : Int32) (m_faultAt : Int32) (m_drawn : Int64) (m_questions : Int32) (m_rights : Int32) (m_wrongs : Int32) (m_tapes : Int32) (m_trials : Int32) (m_read : Nat → Int32) (m_pupil : Nat → Int32) (m_dares : Nat → Int32) (m_times : Nat → Int32) (m_text : Nat → Int32) (m_joint : Nat → Int64) (m_others : Nat → Int64) (m_tapeHands : Nat → Int32) (m_tapeTaken : Nat → Int32) (m_trialHands : Nat → Int32) (m_trialWaited : Nat → Int32) (m_isKept : Nat → Int32) (m_keptDares : Nat → Int32) (m_keptTimes : Nat → Int32) (m_keptDrawn : Nat → Int64) (m_keptLesson : Nat → Int32), Rel (i + 1) tx_length tx_bytes ro_pupils ro_mood ro_letters ro_rows ro_columns ro_tenths ro_needs ro_toldDares le_seed le_questions le_rightOnes le_wrongOnes le_dares le_times s1_seed s1_questions s1_rightOnes s1_wrongOnes s1_isKept s1_dares s1_times s2_seed s2_questions s2_rightOnes s2_wrongOnes s2_isKept s2_dares s2_times ta_size ta_hands ta_ones tr_waited tr_size tr_hands m_pupils m_mood m_length m_drawn m_questions m_rights m_wrongs m_tapes m_trials m_pupil m_dares m_times m_text m_tapeHands m_tapeTaken m_trialHands m_trialWaited m_isKept m_keptDares m_keptTimes m_keptDrawn m_keptLesson → ∀ (w : va_W) (H : Heap) (locs : List Loc), va_P D vwCl w H → va_D (fun q : Nat => s.heap.size ≤ q) w → va_S (fun q : Nat => s.heap.size ≤ q) s.heap H locs → wAll a cI cJ cZ w tx_length tx_bytes ro_pupils ro_mood ro_letters ro_rows ro_columns ro_tenths ro_needs ro_toldDares le_seed le_questions le_rightOnes le_wrongOnes le_isKept le_dares le_times ha_cells ch_pupils ch_rule ch_ranks ch_eligible ch_eligibleAndRight ch_cells s1_seed s1_questions s1_rightOnes s1_wrongOnes s1_isKept s1_dares s1_times s2_seed s2_questions s2_rightOnes s2_wrongOnes s2_isKept s2_dares s2_times ta_size ta_hands ta_ones ta_cells tr_waited tr_size tr_hands m_readMany m_pupils m_mood m_length m_at m_faultAt m_drawn m_questions m_rights m_wrongs m_tapes m_trials m_read m_pupil m_dares m_times m_text m_joint m_others m_tapeHands m_tapeTaken m_trialHands m_trialWaited m_isKept m_keptDares m_keptTimes m_keptDrawn m_keptLesson → ∀ ls : Array Slot, lv_has ls 4 [(0, .ref b), (1, .ref (a 0)), (2, .ref (a 35)), (3, .int (nI i))] → W p l e room_1 s m #[Value.ref b] below meth c H locs 52 1402 (lw_Z below #[Value.ref b] s) (F0 m 1535 ls [])) : W p l e room_1 s m #[Value.ref b] below meth c H locs 52 1402 (lw_Z below #[Value.ref b] s) (F0 m 1363 ls []) := by
  obtain ⟨-, -, -, -, -, -, hX, hbl, -, -⟩ := C0
  obtain ⟨hx, hb, hr, hml, hown, hts, hlk, hK, hN⟩ := id X
  have hown : s.vm.findClass RL = some m.cls := hown
  have hbA : ¬ (fun q : Nat => s.heap.size ≤ q) b := Nat.not_le.mpr hbl
  obtain ⟨h0, h1, h2, h3, h4, h5, h6, h7, h8, h9, h10, h11, h12, h13, h14, h15, h16, h17, h18, h19, h20, h21, h22, h23, h24, h25, h26, h27, h28, h29, h30, h31, h32, h33, h34, h35, h36, h37, h38, h39, h40, h41, h42, h43, h44, h45, h46, h47, h48, h49, h50, h51⟩ := hw
  have i1 : vp_in (nI i + (1 : Int32)) L := by rw [show (1 : Int32) = nI 1 from rfl, nI_add]; exact vp_in_nI (by omega) (by omega)
  have i2 : vp_in (nI i + (2 : Int32)) L := by rw [show (2 : Int32) = nI 2 from rfl, nI_add]; exact vp_in_nI (by omega) (by omega)
  have i3 : vp_in (nI i + (3 : Int32)) L := by rw [show (3 : Int32) = nI 3 from rfl, nI_add]; exact vp_in_nI (by omega) (by omega)
  have i4 : vp_in (nI i + (4 : Int32)) L := by rw [show (4 : Int32) = nI 4 from rfl, nI_add]; exact vp_in_nI (by omega) (by omega)
  have i5 : vp_in (nI i + (5 : Int32)) L := by rw [show (5 : Int32) = nI 5 from rfl, nI_add]; exact vp_in_nI (by omega) (by omega)
  obtain ⟨u, v, hu, hv, he, hR2⟩ := P_untrial i (by omega) tx_length tx_bytes ro_pupils ro_mood ro_letters ro_rows ro_columns ro_tenths ro_needs ro_toldDares le_seed le_questions le_rightOnes le_wrongOnes le_isKept le_dares le_times ha_cells ch_pupils ch_rule ch_ranks ch_eligible ch_eligibleAndRight ch_cells s1_seed s1_questions s1_rightOnes s1_wrongOnes s1_isKept s1_dares s1_times s2_seed s2_questions s2_rightOnes s2_wrongOnes s2_isKept s2_dares s2_times ta_size ta_hands ta_ones ta_cells tr_waited tr_size tr_hands m_readMany m_pupils m_mood m_length m_at m_faultAt m_drawn m_questions m_rights m_wrongs m_tapes m_trials m_read m_pupil m_dares m_times m_text m_joint m_others m_tapeHands m_tapeTaken m_trialHands m_trialWaited m_isKept m_keptDares m_keptTimes m_keptDrawn m_keptLesson   hR
  refine lv_aload_n hx hb dL_law_1363 rfl (lv_at hl 1 rfl) ?_
  refine wr_i (runV (As := []) (rest := []) X cq_X8_untrial lk_L_142 (c_X8_untrial l D cI cJ cZ a ws0 (fun q : Nat => s.heap.size ≤ q) tr_waited tr_size u hu h0 h33 hD) rfl rfl ⟨Nat.le_of_ble_eq_true rfl, Nat.le_of_ble_eq_true rfl⟩ hP h0 rfl rfl hl.1 rfl (Nat.le_of_ble_eq_true rfl) dL_law_1364 ⟨Nat.le_of_ble_eq_true rfl, Nat.le_of_ble_eq_true rfl⟩) hS (fun w1 H locs hP hD hk hB hS => ?_)
  have h33 : w1[33]? = some (a 33, .inr (7, [.ref (a 34), .int u.2.2, .int u.2.1])) := hB
  have h0 := (hk 0 (by decide)).trans h0
  have h1 := (hk 1 (by decide)).trans h1
  have h2 := (hk 2 (by decide)).trans h2
  have h3 := (hk 3 (by decide)).trans h3
  have h4 := (hk 4 (by decide)).trans h4
  have h5 := (hk 5 (by decide)).trans h5
  have h6 := (hk 6 (by decide)).trans h6
  have h7 := (hk 7 (by decide)).trans h7
  have h8 := (hk 8 (by decide)).trans h8
  have h9 := (hk 9 (by decide)).trans h9
  have h10 := (hk 10 (by decide)).trans h10
  have h11 := (hk 11 (by decide)).trans h11
  have h12 := (hk 12 (by decide)).trans h12
  have h13 := (hk 13 (by decide)).trans h13
  have h14 := (hk 14 (by decide)).trans h14
  have h15 := (hk 15 (by decide)).trans h15
  have h16 := (hk 16 (by decide)).trans h16
  have h17 := (hk 17 (by decide)).trans h17
  have h18 := (hk 18 (by decide)).trans h18
  have h19 := (hk 19 (by decide)).trans h19
  have h20 := (hk 20 (by decide)).trans h20
  have h21 := (hk 21 (by decide)).trans h21
  have h22 := (hk 22 (by decide)).trans h22
  have h23 := (hk 23 (by decide)).trans h23
  have h24 := (hk 24 (by decide)).trans h24
  have h25 := (hk 25 (by decide)).trans h25
  have h26 := (hk 26 (by decide)).trans h26
  have h27 := (hk 27 (by decide)).trans h27
  have h28 := (hk 28 (by decide)).trans h28
  have h29 := (hk 29 (by decide)).trans h29
  have h30 := (hk 30 (by decide)).trans h30
  have h31 := (hk 31 (by decide)).trans h31
  have h32 := (hk 32 (by decide)).trans h32
  have h34 := (hk 34 (by decide)).trans h34
  have h35 := (hk 35 (by decide)).trans h35
  have h36 := (hk 36 (by decide)).trans h36
  have h37 := (hk 37 (by decide)).trans h37
  have h38 := (hk 38 (by decide)).trans h38
  have h39 := (hk 39 (by decide)).trans h39
  have h40 := (hk 40 (by decide)).trans h40
  have h41 := (hk 41 (by decide)).trans h41
  have h42 := (hk 42 (by decide)).trans h42
  have h43 := (hk 43 (by decide)).trans h43
  have h44 := (hk 44 (by decide)).trans h44
  have h45 := (hk 45 (by decide)).trans h45
  have h46 := (hk 46 (by decide)).trans h46
  have h47 := (hk 47 (by decide)).trans h47
  have h48 := (hk 48 (by decide)).trans h48
  have h49 := (hk 49 (by decide)).trans h49
  have h50 := (hk 50 (by decide)).trans h50
  have h51 := (hk 51 (by decide)).trans h51
  refine lv_aload_n hx hb dL_law_1367 rfl (lv_at hl 2 rfl) ?_
  refine wr_i (runV (As := []) (rest := [.int u.1]) X cq_X9_untrial lk_L_145 (c_X9_untrial l D cI cJ cZ a w1 (fun q : Nat => s.heap.size ≤ q) m_readMany m_pupils m_mood m_length m_at m_faultAt m_drawn m_questions m_rights m_wrongs m_tapes m_trials v hv h35 hD) rfl rfl ⟨Nat.le_of_ble_eq_true rfl, Nat.le_of_ble_eq_true rfl⟩ hP h35 rfl rfl hl.1 rfl (Nat.le_of_ble_eq_true rfl) dL_law_1368 ⟨Nat.le_of_ble_eq_true rfl, Nat.le_of_ble_eq_true rfl⟩) hS (fun w2 H locs hP hD hk hB hS => ?_)
  have h35 : w2[35]? = some (a 35, .inr (9, [.ref (a 36), .int m_readMany, .ref (a 37), .int m_pupils, .ref (a 38), .ref (a 39), .int m_mood, .ref (a 40), .int m_length, .int m_at, .int m_faultAt, .ref (a 41), .ref (a 42), .long m_drawn, .int m_questions, .int m_rights, .int m_wrongs, .int m_tapes, .ref (a 43), .ref (a 44), .int v.2, .ref (a 45), .ref (a 46), .ref (a 47), .ref (a 48), .ref (a 49), .ref (a 50), .ref (a 51)])) := hB
  have h0 := (hk 0 (by decide)).trans h0
  have h1 := (hk 1 (by decide)).trans h1
  have h2 := (hk 2 (by decide)).trans h2
  have h3 := (hk 3 (by decide)).trans h3
  have h4 := (hk 4 (by decide)).trans h4
  have h5 := (hk 5 (by decide)).trans h5
  have h6 := (hk 6 (by decide)).trans h6
  have h7 := (hk 7 (by decide)).trans h7
  have h8 := (hk 8 (by decide)).trans h8
  have h9 := (hk 9 (by decide)).trans h9
  have h10 := (hk 10 (by decide)).trans h10
  have h11 := (hk 11 (by decide)).trans h11
  have h12 := (hk 12 (by decide)).trans h12
  have h13 := (hk 13 (by decide)).trans h13
  have h14 := (hk 14 (by decide)).trans h14
  have h15 := (hk 15 (by decide)).trans h15
  have h16 := (hk 16 (by decide)).trans h16
  have h17 := (hk 17 (by decide)).trans h17
  have h18 := (hk 18 (by decide)).trans h18
  have h19 := (hk 19 (by decide)).trans h19
  have h20 := (hk 20 (by decide)).trans h20
  have h21 := (hk 21 (by decide)).trans h21
  have h22 := (hk 22 (by decide)).trans h22
  have h23 := (hk 23 (by decide)).trans h23
  have h24 := (hk 24 (by decide)).trans h24
  have h25 := (hk 25 (by decide)).trans h25
  have h26 := (hk 26 (by decide)).trans h26
  have h27 := (hk 27 (by decide)).trans h27
  have h28 := (hk 28 (by decide)).trans h28
  have h29 := (hk 29 (by decide)).trans h29
  have h30 := (hk 30 (by decide)).trans h30
  have h31 := (hk 31 (by decide)).trans h31
  have h32 := (hk 32 (by decide)).trans h32
  have h33 := (hk 33 (by decide)).trans h33
  have h34 := (hk 34 (by decide)).trans h34
  have h36 := (hk 36 (by decide)).trans h36
  have h37 := (hk 37 (by decide)).trans h37
  have h38 := (hk 38 (by decide)).trans h38
  have h39 := (hk 39 (by decide)).trans h39
  have h40 := (hk 40 (by decide)).trans h40
  have h41 := (hk 41 (by decide)).trans h41
  have h42 := (hk 42 (by decide)).trans h42
  have h43 := (hk 43 (by decide)).trans h43
  have h44 := (hk 44 (by decide)).trans h44
  have h45 := (hk 45 (by decide)).trans h45
  have h46 := (hk 46 (by decide)).trans h46
  have h47 := (hk 47 (by decide)).trans h47
  have h48 := (hk 48 (by decide)).trans h48
  have h49 := (hk 49 (by decide)).trans h49
  have h50 := (hk 50 (by decide)).trans h50
  have h51 := (hk 51 (by decide)).trans h51
  refine lv_icmp_eq (tgt := 1535) hx hb dL_law_1371 (by decide) (fun _ => ?_) (fun q => absurd he q)
  exact KK tx_length tx_bytes ro_pupils ro_mood ro_letters ro_rows ro_columns ro_tenths ro_needs ro_toldDares le_seed le_questions le_rightOnes le_wrongOnes le_isKept le_dares le_times ha_cells ch_pupils ch_rule ch_ranks ch_eligible ch_eligibleAndRight ch_cells s1_seed s1_questions s1_rightOnes s1_wrongOnes s1_isKept s1_dares s1_times s2_seed s2_questions s2_rightOnes s2_wrongOnes s2_isKept s2_dares s2_times ta_size ta_hands ta_ones ta_cells u.2.2 u.2.1 tr_hands m_readMany m_pupils m_mood m_length m_at m_faultAt m_drawn m_questions m_rights m_wrongs m_tapes v.2 m_read m_pupil m_dares m_times m_text m_joint m_others m_tapeHands m_tapeTaken m_trialHands m_trialWaited m_isKept m_keptDares m_keptTimes m_keptDrawn m_keptLesson hR2 _ _ _ hP hD hS ⟨h0, h1, h2, h3, h4, h5, h6, h7, h8, h9, h10, h11, h12, h13, h14, h15, h16, h17, h18, h19, h20, h21, h22, h23, h24, h25, h26, h27, h28, h29, h30, h31, h32, h33, h34, h35, h36, h37, h38, h39, h40, h41, h42, h43, h44, h45, h46, h47, h48, h49, h50, h51⟩ ls hl
set_option maxHeartbeats 4000000 in
set_option maxRecDepth 100000 in
theorem case_30 {p : Program} {l : Launch} {e : Env} {s : State} {m : MethodId} {below : List Frame} {meth : Method} {c : Code} {D : va_G} {cI cJ cZ : ClassId} {a : Nat → Nat} {b L : Nat} {xs : Nat → Int32} (C0 : lw_At p s m meth c b L xs) (X : Cx yL_law code 4 ret D cI cJ cZ p s m #[Value.ref b] meth c) (i : Nat) (hi : i + 5 < L) (hL : L ≤ 3072) (tx_length : Int32) (tx_bytes : Nat → Int32) (ro_pupils : Int32) (ro_mood : Int32) (ro_letters : Nat → Int32) (ro_rows : Nat → Int32) (ro_columns : Nat → Int32) (ro_tenths : Nat → Int32) (ro_needs : Nat → Int32) (ro_toldDares : Nat → Int32) (le_seed : Int64) (le_questions : Int32) (le_rightOnes : Int32) (le_wrongOnes : Int32) (le_isKept : Int32) (le_dares : Nat → Int32) (le_times : Nat → Int32) (ha_cells : Nat → Int64) (ch_pupils : Int32) (ch_rule : Int32) (ch_ranks : Nat → Int32) (ch_eligible : Nat → Int32) (ch_eligibleAndRight : Nat → Int32) (ch_cells : Nat → Int64) (s1_seed : Int64) (s1_questions : Int32) (s1_rightOnes : Int32) (s1_wrongOnes : Int32) (s1_isKept : Int32) (s1_dares : Nat → Int32) (s1_times : Nat → Int32) (s2_seed : Int64) (s2_questions : Int32) (s2_rightOnes : Int32) (s2_wrongOnes : Int32) (s2_isKept : Int32) (s2_dares : Nat → Int32) (s2_times : Nat → Int32) (ta_size : Int32) (ta_hands : Nat → Int32) (ta_ones : Nat → Int32) (ta_cells : Nat → Int64) (tr_waited : Int32) (tr_size : Int32) (tr_hands : Nat → Int32) (m_readMany : Int32) (m_pupils : Int32) (m_mood : Int32) (m_length : Int32) (m_at : Int32) (m_faultAt : Int32) (m_drawn : Int64) (m_questions : Int32) (m_rights : Int32) (m_wrongs : Int32) (m_tapes : Int32) (m_trials : Int32) (m_read : Nat → Int32) (m_pupil : Nat → Int32) (m_dares : Nat → Int32) (m_times : Nat → Int32) (m_text : Nat → Int32) (m_joint : Nat → Int64) (m_others : Nat → Int64) (m_tapeHands : Nat → Int32) (m_tapeTaken : Nat → Int32) (m_trialHands : Nat → Int32) (m_trialWaited : Nat → Int32) (m_isKept : Nat → Int32) (m_keptDares : Nat → Int32) (m_keptTimes : Nat → Int32) (m_keptDrawn : Nat → Int64) (m_keptLesson : Nat → Int32) (hR : Rel i tx_length tx_bytes ro_pupils ro_mood ro_letters ro_rows ro_columns ro_tenths ro_needs ro_toldDares le_seed le_questions le_rightOnes le_wrongOnes le_dares le_times s1_seed s1_questions s1_rightOnes s1_wrongOnes s1_isKept s1_dares s1_times s2_seed s2_questions s2_rightOnes s2_wrongOnes s2_isKept s2_dares s2_times ta_size ta_hands ta_ones tr_waited tr_size tr_hands m_pupils m_mood m_length m_drawn m_questions m_rights m_wrongs m_tapes m_trials m_pupil m_dares m_times m_text m_tapeHands m_tapeTaken m_trialHands m_trialWaited m_isKept m_keptDares m_keptTimes m_keptDrawn m_keptLesson) (ws0 : va_W) (H : Heap) (locs : List Loc) (hP : va_P D vwCl ws0 H) (hD : va_D (fun q : Nat => s.heap.size ≤ q) ws0) (hS : va_S (fun q : Nat => s.heap.size ≤ q) s.heap H locs) (hw : wAll a cI cJ cZ ws0 tx_length tx_bytes ro_pupils ro_mood ro_letters ro_rows ro_columns ro_tenths ro_needs ro_toldDares le_seed le_questions le_rightOnes le_wrongOnes le_isKept le_dares le_times ha_cells ch_pupils ch_rule ch_ranks ch_eligible ch_eligibleAndRight ch_cells s1_seed s1_questions s1_rightOnes s1_wrongOnes s1_isKept s1_dares s1_times s2_seed s2_questions s2_rightOnes s2_wrongOnes s2_isKept s2_dares s2_times ta_size ta_hands ta_ones ta_cells tr_waited tr_size tr_hands m_readMany m_pupils m_mood m_length m_at m_faultAt m_drawn m_questions m_rights m_wrongs m_tapes m_trials m_read m_pupil m_dares m_times m_text m_joint m_others m_tapeHands m_tapeTaken m_trialHands m_trialWaited m_isKept m_keptDares m_keptTimes m_keptDrawn m_keptLesson) (ls : Array Slot) (hl : lv_has ls 4 [(0, .ref b), (1, .ref (a 0)), (2, .ref (a 35)), (3, .int (nI i))]) (KK : ∀ (tx_length : Int32) (tx_bytes : Nat → Int32) (ro_pupils : Int32) (ro_mood : Int32) (ro_letters : Nat → Int32) (ro_rows : Nat → Int32) (ro_columns : Nat → Int32) (ro_tenths : Nat → Int32) (ro_needs : Nat → Int32) (ro_toldDares : Nat → Int32) (le_seed : Int64) (le_questions : Int32) (le_rightOnes : Int32) (le_wrongOnes : Int32) (le_isKept : Int32) (le_dares : Nat → Int32) (le_times : Nat → Int32) (ha_cells : Nat → Int64) (ch_pupils : Int32) (ch_rule : Int32) (ch_ranks : Nat → Int32) (ch_eligible : Nat → Int32) (ch_eligibleAndRight : Nat → Int32) (ch_cells : Nat → Int64) (s1_seed : Int64) (s1_questions : Int32) (s1_rightOnes : Int32) (s1_wrongOnes : Int32) (s1_isKept : Int32) (s1_dares : Nat → Int32) (s1_times : Nat → Int32) (s2_seed : Int64) (s2_questions : Int32) (s2_rightOnes : Int32) (s2_wrongOnes : Int32) (s2_isKept : Int32) (s2_dares : Nat → Int32) (s2_times : Nat → Int32) (ta_size : Int32) (ta_hands : Nat → Int32) (ta_ones : Nat → Int32) (ta_cells : Nat → Int64) (tr_waited : Int32) (tr_size : Int32) (tr_hands : Nat → Int32) (m_readMany : Int32) (m_pupils : Int32) (m_mood : Int32) (m_length : Int32) (m_at : Int32) (m_faultAt : Int32) (m_drawn : Int64) (m_questions : Int32) (m_rights : Int32) (m_wrongs : Int32) (m_tapes : Int32) (m_trials : Int32) (m_read : Nat → Int32) (m_pupil : Nat → Int32) (m_dares : Nat → Int32) (m_times : Nat → Int32) (m_text : Nat → Int32) (m_joint : Nat → Int64) (m_others : Nat → Int64) (m_tapeHands : Nat → Int32) (m_tapeTaken : Nat → Int32) (m_trialHands : Nat → Int32) (m_trialWaited : Nat → Int32) (m_isKept : Nat → Int32) (m_keptDares : Nat → Int32) (m_keptTimes : Nat → Int32) (m_keptDrawn : Nat → Int64) (m_keptLesson : Nat → Int32), Rel (i + 1) tx_length tx_bytes ro_pupils ro_mood ro_letters ro_rows ro_columns ro_tenths ro_needs ro_toldDares le_seed le_questions le_rightOnes le_wrongOnes le_dares le_times s1_seed s1_questions s1_rightOnes s1_wrongOnes s1_isKept s1_dares s1_times s2_seed s2_questions s2_rightOnes s2_wrongOnes s2_isKept s2_dares s2_times ta_size ta_hands ta_ones tr_waited tr_size tr_hands m_pupils m_mood m_length m_drawn m_questions m_rights m_wrongs m_tapes m_trials m_pupil m_dares m_times m_text m_tapeHands m_tapeTaken m_trialHands m_trialWaited m_isKept m_keptDares m_keptTimes m_keptDrawn m_keptLesson → ∀ (w : va_W) (H : Heap) (locs : List Loc), va_P D vwCl w H → va_D (fun q : Nat => s.heap.size ≤ q) w → va_S (fun q : Nat => s.heap.size ≤ q) s.heap H locs → wAll a cI cJ cZ w tx_length tx_bytes ro_pupils ro_mood ro_letters ro_rows ro_columns ro_tenths ro_needs ro_toldDares le_seed le_questions le_rightOnes le_wrongOnes le_isKept le_dares le_times ha_cells ch_pupils ch_rule ch_ranks ch_eligible ch_eligibleAndRight ch_cells s1_seed s1_questions s1_rightOnes s1_wrongOnes s1_isKept s1_dares s1_times s2_seed s2_questions s2_rightOnes s2_wrongOnes s2_isKept s2_dares s2_times ta_size ta_hands ta_ones ta_cells tr_waited tr_size tr_hands m_readMany m_pupils m_mood m_length m_at m_faultAt m_drawn m_questions m_rights m_wrongs m_tapes m_trials m_read m_pupil m_dares m_times m_text m_joint m_others m_tapeHands m_tapeTaken m_trialHands m_trialWaited m_isKept m_keptDares m_keptTimes m_keptDrawn m_keptLesson → ∀ ls : Array Slot, lv_has ls 4 [(0, .ref b), (1, .ref (a 0)), (2, .ref (a 35)), (3, .int (nI i))] → W p l e room_1 s m #[Value.ref b] below meth c H locs 52 1402 (lw_Z below #[Value.ref b] s) (F0 m 1535 ls [])) : W p l e room_1 s m #[Value.ref b] below meth c H locs 52 1402 (lw_Z below #[Value.ref b] s) (F0 m 1376 ls []) := by
  obtain ⟨-, -, -, -, -, -, hX, hbl, -, -⟩ := C0
  obtain ⟨hx, hb, hr, hml, hown, hts, hlk, hK, hN⟩ := id X
  have hown : s.vm.findClass RL = some m.cls := hown
  have hbA : ¬ (fun q : Nat => s.heap.size ≤ q) b := Nat.not_le.mpr hbl
  obtain ⟨h0, h1, h2, h3, h4, h5, h6, h7, h8, h9, h10, h11, h12, h13, h14, h15, h16, h17, h18, h19, h20, h21, h22, h23, h24, h25, h26, h27, h28, h29, h30, h31, h32, h33, h34, h35, h36, h37, h38, h39, h40, h41, h42, h43, h44, h45, h46, h47, h48, h49, h50, h51⟩ := hw
  have i1 : vp_in (nI i + (1 : Int32)) L := by rw [show (1 : Int32) = nI 1 from rfl, nI_add]; exact vp_in_nI (by omega) (by omega)
  have i2 : vp_in (nI i + (2 : Int32)) L := by rw [show (2 : Int32) = nI 2 from rfl, nI_add]; exact vp_in_nI (by omega) (by omega)
  have i3 : vp_in (nI i + (3 : Int32)) L := by rw [show (3 : Int32) = nI 3 from rfl, nI_add]; exact vp_in_nI (by omega) (by omega)
  have i4 : vp_in (nI i + (4 : Int32)) L := by rw [show (4 : Int32) = nI 4 from rfl, nI_add]; exact vp_in_nI (by omega) (by omega)
  have i5 : vp_in (nI i + (5 : Int32)) L := by rw [show (5 : Int32) = nI 5 from rfl, nI_add]; exact vp_in_nI (by omega) (by omega)
  by_cases hz : xs (nI i + (1 : Int32)).toNatClampNeg = 0
  · obtain ⟨u, v, hu, hv, he, hR2⟩ := P_chance i (by omega) tx_length tx_bytes ro_pupils ro_mood ro_letters ro_rows ro_columns ro_tenths ro_needs ro_toldDares le_seed le_questions le_rightOnes le_wrongOnes le_isKept le_dares le_times ha_cells ch_pupils ch_rule ch_ranks ch_eligible ch_eligibleAndRight ch_cells s1_seed s1_questions s1_rightOnes s1_wrongOnes s1_isKept s1_dares s1_times s2_seed s2_questions s2_rightOnes s2_wrongOnes s2_isKept s2_dares s2_times ta_size ta_hands ta_ones ta_cells tr_waited tr_size tr_hands m_readMany m_pupils m_mood m_length m_at m_faultAt m_drawn m_questions m_rights m_wrongs m_tapes m_trials m_read m_pupil m_dares m_times m_text m_joint m_others m_tapeHands m_tapeTaken m_trialHands m_trialWaited m_isKept m_keptDares m_keptTimes m_keptDrawn m_keptLesson (0 : Int32) (by decide) hR
    refine lv_aload_n hx hb dL_law_1376 rfl (lv_at hl 1 rfl) ?_
    refine lv_aload_n hx hb dL_law_1377 rfl (lv_at hl 0 rfl) ?_
    refine lv_iload_n hx hb dL_law_1378 rfl (lv_at hl 3 rfl) ?_
    refine lv_iconst (v := (1 : Int32)) hx hb dL_law_1379 (by decide) ?_
    refine lv_iadd hx hb dL_law_1380 ?_
    refine va_sld hx hb hX hbl hbA hS i1 dL_law_1381 ?_
    refine lv_if_eq (tgt := 1389) hx hb dL_law_1382 (by decide) (fun _ => ?_) (fun q => absurd hz q)
    refine lv_iconst (v := (0 : Int32)) hx hb dL_law_1389 (by decide) ?_
    refine rd_l (runV (As := [.int (0 : Int32)]) (rest := []) X cq_X8_chance lk_L_146 (c_X8_chance l D cI cJ cZ a ws0 tr_waited tr_size tr_hands (0 : Int32) u hu h0 h33 h34) rfl rfl ⟨Nat.le_of_ble_eq_true rfl, Nat.le_of_ble_eq_true rfl⟩ hP h0 rfl rfl hl.1 rfl (Nat.le_of_ble_eq_true rfl) dL_law_1390 ⟨Nat.le_of_ble_eq_true rfl, Nat.le_of_ble_eq_true rfl⟩) ?_
    refine lv_aload_n hx hb dL_law_1393 rfl (lv_at hl 2 rfl) ?_
    refine lv_aload_n hx hb dL_law_1394 rfl (lv_at hl 0 rfl) ?_
    refine lv_iload_n hx hb dL_law_1395 rfl (lv_at hl 3 rfl) ?_
    refine lv_iconst (v := (1 : Int32)) hx hb dL_law_1396 (by decide) ?_
    refine lv_iadd hx hb dL_law_1397 ?_
    refine va_sld hx hb hX hbl hbA hS i1 dL_law_1398 ?_
    refine lv_if_eq (tgt := 1406) hx hb dL_law_1399 (by decide) (fun _ => ?_) (fun q => absurd hz q)
    refine lv_iconst (v := (0 : Int32)) hx hb dL_law_1406 (by decide) ?_
    refine rd_l (runV (As := [.int (0 : Int32)]) (rest := [.long u]) X cq_X9_chance lk_L_150 (c_X9_chance l D cI cJ cZ a ws0 m_readMany m_pupils m_mood m_length m_at m_faultAt m_drawn m_questions m_rights m_wrongs m_tapes m_trials m_trialWaited m_trialHands (0 : Int32) v hv h35 h45 h46) rfl rfl ⟨Nat.le_of_ble_eq_true rfl, Nat.le_of_ble_eq_true rfl⟩ hP h35 rfl rfl hl.1 rfl (Nat.le_of_ble_eq_true rfl) dL_law_1407 ⟨Nat.le_of_ble_eq_true rfl, Nat.le_of_ble_eq_true rfl⟩) ?_
    refine W.lcmp hx hb dL_law_1410 ?_
    refine lv_if_eq (tgt := 1535) hx hb dL_law_1411 (by decide) (fun _ => ?_) (fun q => absurd ((lc_eq _ _).mpr he) q)
    exact KK tx_length tx_bytes ro_pupils ro_mood ro_letters ro_rows ro_columns ro_tenths ro_needs ro_toldDares le_seed le_questions le_rightOnes le_wrongOnes le_isKept le_dares le_times ha_cells ch_pupils ch_rule ch_ranks ch_eligible ch_eligibleAndRight ch_cells s1_seed s1_questions s1_rightOnes s1_wrongOnes s1_isKept s1_dares s1_times s2_seed s2_questions s2_rightOnes s2_wrongOnes s2_isKept s2_dares s2_times ta_size ta_hands ta_ones ta_cells tr_waited tr_size tr_hands m_readMany m_pupils m_mood m_length m_at m_faultAt m_drawn m_questions m_rights m_wrongs m_tapes m_trials m_read m_pupil m_dares m_times m_text m_joint m_others m_tapeHands m_tapeTaken m_trialHands m_trialWaited m_isKept m_keptDares m_keptTimes m_keptDrawn m_keptLesson hR2 _ _ _ hP hD hS ⟨h0, h1, h2, h3, h4, h5, h6, h7, h8, h9, h10, h11, h12, h13, h14, h15, h16, h17, h18, h19, h20, h21, h22, h23, h24, h25, h26, h27, h28, h29, h30, h31, h32, h33, h34, h35, h36, h37, h38, h39, h40, h41, h42, h43, h44, h45, h46, h47, h48, h49, h50, h51⟩ ls hl
  · obtain ⟨u, v, hu, hv, he, hR2⟩ := P_chance i (by omega) tx_length tx_bytes ro_pupils ro_mood ro_letters ro_rows ro_columns ro_tenths ro_needs ro_toldDares le_seed le_questions le_rightOnes le_wrongOnes le_isKept le_dares le_times ha_cells ch_pupils ch_rule ch_ranks ch_eligible ch_eligibleAndRight ch_cells s1_seed s1_questions s1_rightOnes s1_wrongOnes s1_isKept s1_dares s1_times s2_seed s2_questions s2_rightOnes s2_wrongOnes s2_isKept s2_dares s2_times ta_size ta_hands ta_ones ta_cells tr_waited tr_size tr_hands m_readMany m_pupils m_mood m_length m_at m_faultAt m_drawn m_questions m_rights m_wrongs m_tapes m_trials m_read m_pupil m_dares m_times m_text m_joint m_others m_tapeHands m_tapeTaken m_trialHands m_trialWaited m_isKept m_keptDares m_keptTimes m_keptDrawn m_keptLesson (1 : Int32) (by decide) hR
    refine lv_aload_n hx hb dL_law_1376 rfl (lv_at hl 1 rfl) ?_
    refine lv_aload_n hx hb dL_law_1377 rfl (lv_at hl 0 rfl) ?_
    refine lv_iload_n hx hb dL_law_1378 rfl (lv_at hl 3 rfl) ?_
    refine lv_iconst (v := (1 : Int32)) hx hb dL_law_1379 (by decide) ?_
    refine lv_iadd hx hb dL_law_1380 ?_
    refine va_sld hx hb hX hbl hbA hS i1 dL_law_1381 ?_
    refine lv_if_eq (tgt := 1389) hx hb dL_law_1382 (by decide) (fun q => absurd q hz) (fun _ => ?_)
    refine lv_iconst (v := (1 : Int32)) hx hb dL_law_1385 (by decide) ?_
    refine lv_goto (tgt := 1390) hx hb dL_law_1386 (by decide) ?_
    refine rd_l (runV (As := [.int (1 : Int32)]) (rest := []) X cq_X8_chance lk_L_146 (c_X8_chance l D cI cJ cZ a ws0 tr_waited tr_size tr_hands (1 : Int32) u hu h0 h33 h34) rfl rfl ⟨Nat.le_of_ble_eq_true rfl, Nat.le_of_ble_eq_true rfl⟩ hP h0 rfl rfl hl.1 rfl (Nat.le_of_ble_eq_true rfl) dL_law_1390 ⟨Nat.le_of_ble_eq_true rfl, Nat.le_of_ble_eq_true rfl⟩) ?_
    refine lv_aload_n hx hb dL_law_1393 rfl (lv_at hl 2 rfl) ?_
    refine lv_aload_n hx hb dL_law_1394 rfl (lv_at hl 0 rfl) ?_
    refine lv_iload_n hx hb dL_law_1395 rfl (lv_at hl 3 rfl) ?_
    refine lv_iconst (v := (1 : Int32)) hx hb dL_law_1396 (by decide) ?_
    refine lv_iadd hx hb dL_law_1397 ?_
    refine va_sld hx hb hX hbl hbA hS i1 dL_law_1398 ?_
    refine lv_if_eq (tgt := 1406) hx hb dL_law_1399 (by decide) (fun q => absurd q hz) (fun _ => ?_)
    refine lv_iconst (v := (1 : Int32)) hx hb dL_law_1402 (by decide) ?_
    refine lv_goto (tgt := 1407) hx hb dL_law_1403 (by decide) ?_
    refine rd_l (runV (As := [.int (1 : Int32)]) (rest := [.long u]) X cq_X9_chance lk_L_150 (c_X9_chance l D cI cJ cZ a ws0 m_readMany m_pupils m_mood m_length m_at m_faultAt m_drawn m_questions m_rights m_wrongs m_tapes m_trials m_trialWaited m_trialHands (1 : Int32) v hv h35 h45 h46) rfl rfl ⟨Nat.le_of_ble_eq_true rfl, Nat.le_of_ble_eq_true rfl⟩ hP h35 rfl rfl hl.1 rfl (Nat.le_of_ble_eq_true rfl) dL_law_1407 ⟨Nat.le_of_ble_eq_true rfl, Nat.le_of_ble_eq_true rfl⟩) ?_
    refine W.lcmp hx hb dL_law_1410 ?_
    refine lv_if_eq (tgt := 1535) hx hb dL_law_1411 (by decide) (fun _ => ?_) (fun q => absurd ((lc_eq _ _).mpr he) q)
    exact KK tx_length tx_bytes ro_pupils ro_mood ro_letters ro_rows ro_columns ro_tenths ro_needs ro_toldDares le_seed le_questions le_rightOnes le_wrongOnes le_isKept le_dares le_times ha_cells ch_pupils ch_rule ch_ranks ch_eligible ch_eligibleAndRight ch_cells s1_seed s1_questions s1_rightOnes s1_wrongOnes s1_isKept s1_dares s1_times s2_seed s2_questions s2_rightOnes s2_wrongOnes s2_isKept s2_dares s2_times ta_size ta_hands ta_ones ta_cells tr_waited tr_size tr_hands m_readMany m_pupils m_mood m_length m_at m_faultAt m_drawn m_questions m_rights m_wrongs m_tapes m_trials m_read m_pupil m_dares m_times m_text m_joint m_others m_tapeHands m_tapeTaken m_trialHands m_trialWaited m_isKept m_keptDares m_keptTimes m_keptDrawn m_keptLesson hR2 _ _ _ hP hD hS ⟨h0, h1, h2, h3, h4, h5, h6, h7, h8, h9, h10, h11, h12, h13, h14, h15, h16, h17, h18, h19, h20, h21, h22, h23, h24, h25, h26, h27, h28, h29, h30, h31, h32, h33, h34, h35, h36, h37, h38, h39, h40, h41, h42, h43, h44, h45, h46, h47, h48, h49, h50, h51⟩ ls hl
set_option maxHeartbeats 4000000 in
set_option maxRecDepth 100000 in
theorem case_31 {p : Program} {l : Launch} {e : Env} {s : State} {m : MethodId} {below : List Frame} {meth : Method} {c : Code} {D : va_G} {cI cJ cZ : ClassId} {a : Nat → Nat} {b L : Nat} {xs : Nat → Int32} (C0 : lw_At p s m meth c b L xs) (X : Cx yL_law code 4 ret D cI cJ cZ p s m #[Value.ref b] meth c) (i : Nat) (hi : i + 5 < L) (hL : L ≤ 3072) (tx_length : Int32) (tx_bytes : Nat → Int32) (ro_pupils : Int32) (ro_mood : Int32) (ro_letters : Nat → Int32) (ro_rows : Nat → Int32) (ro_columns : Nat → Int32) (ro_tenths : Nat → Int32) (ro_needs : Nat → Int32) (ro_toldDares : Nat → Int32) (le_seed : Int64) (le_questions : Int32) (le_rightOnes : Int32) (le_wrongOnes : Int32) (le_isKept : Int32) (le_dares : Nat → Int32) (le_times : Nat → Int32) (ha_cells : Nat → Int64) (ch_pupils : Int32) (ch_rule : Int32) (ch_ranks : Nat → Int32) (ch_eligible : Nat → Int32) (ch_eligibleAndRight : Nat → Int32) (ch_cells : Nat → Int64) (s1_seed : Int64) (s1_questions : Int32) (s1_rightOnes : Int32) (s1_wrongOnes : Int32) (s1_isKept : Int32) (s1_dares : Nat → Int32) (s1_times : Nat → Int32) (s2_seed : Int64) (s2_questions : Int32) (s2_rightOnes : Int32) (s2_wrongOnes : Int32) (s2_isKept : Int32) (s2_dares : Nat → Int32) (s2_times : Nat → Int32) (ta_size : Int32) (ta_hands : Nat → Int32) (ta_ones : Nat → Int32) (ta_cells : Nat → Int64) (tr_waited : Int32) (tr_size : Int32) (tr_hands : Nat → Int32) (m_readMany : Int32) (m_pupils : Int32) (m_mood : Int32) (m_length : Int32) (m_at : Int32) (m_faultAt : Int32) (m_drawn : Int64) (m_questions : Int32) (m_rights : Int32) (m_wrongs : Int32) (m_tapes : Int32) (m_trials : Int32) (m_read : Nat → Int32) (m_pupil : Nat → Int32) (m_dares : Nat → Int32) (m_times : Nat → Int32) (m_text : Nat → Int32) (m_joint : Nat → Int64) (m_others : Nat → Int64) (m_tapeHands : Nat → Int32) (m_tapeTaken : Nat → Int32) (m_trialHands : Nat → Int32) (m_trialWaited : Nat → Int32) (m_isKept : Nat → Int32) (m_keptDares : Nat → Int32) (m_keptTimes : Nat → Int32) (m_keptDrawn : Nat → Int64) (m_keptLesson : Nat → Int32) (hR : Rel i tx_length tx_bytes ro_pupils ro_mood ro_letters ro_rows ro_columns ro_tenths ro_needs ro_toldDares le_seed le_questions le_rightOnes le_wrongOnes le_dares le_times s1_seed s1_questions s1_rightOnes s1_wrongOnes s1_isKept s1_dares s1_times s2_seed s2_questions s2_rightOnes s2_wrongOnes s2_isKept s2_dares s2_times ta_size ta_hands ta_ones tr_waited tr_size tr_hands m_pupils m_mood m_length m_drawn m_questions m_rights m_wrongs m_tapes m_trials m_pupil m_dares m_times m_text m_tapeHands m_tapeTaken m_trialHands m_trialWaited m_isKept m_keptDares m_keptTimes m_keptDrawn m_keptLesson) (ws0 : va_W) (H : Heap) (locs : List Loc) (hP : va_P D vwCl ws0 H) (hD : va_D (fun q : Nat => s.heap.size ≤ q) ws0) (hS : va_S (fun q : Nat => s.heap.size ≤ q) s.heap H locs) (hw : wAll a cI cJ cZ ws0 tx_length tx_bytes ro_pupils ro_mood ro_letters ro_rows ro_columns ro_tenths ro_needs ro_toldDares le_seed le_questions le_rightOnes le_wrongOnes le_isKept le_dares le_times ha_cells ch_pupils ch_rule ch_ranks ch_eligible ch_eligibleAndRight ch_cells s1_seed s1_questions s1_rightOnes s1_wrongOnes s1_isKept s1_dares s1_times s2_seed s2_questions s2_rightOnes s2_wrongOnes s2_isKept s2_dares s2_times ta_size ta_hands ta_ones ta_cells tr_waited tr_size tr_hands m_readMany m_pupils m_mood m_length m_at m_faultAt m_drawn m_questions m_rights m_wrongs m_tapes m_trials m_read m_pupil m_dares m_times m_text m_joint m_others m_tapeHands m_tapeTaken m_trialHands m_trialWaited m_isKept m_keptDares m_keptTimes m_keptDrawn m_keptLesson) (ls : Array Slot) (hl : lv_has ls 4 [(0, .ref b), (1, .ref (a 0)), (2, .ref (a 35)), (3, .int (nI i))]) (KK : ∀ (tx_length : Int32) (tx_bytes : Nat → Int32) (ro_pupils : Int32) (ro_mood : Int32) (ro_letters : Nat → Int32) (ro_rows : Nat → Int32) (ro_columns : Nat → Int32) (ro_tenths : Nat → Int32) (ro_needs : Nat → Int32) (ro_toldDares : Nat → Int32) (le_seed : Int64) (le_questions : Int32) (le_rightOnes : Int32) (le_wrongOnes : Int32) (le_isKept : Int32) (le_dares : Nat → Int32) (le_times : Nat → Int32) (ha_cells : Nat → Int64) (ch_pupils : Int32) (ch_rule : Int32) (ch_ranks : Nat → Int32) (ch_eligible : Nat → Int32) (ch_eligibleAndRight : Nat → Int32) (ch_cells : Nat → Int64) (s1_seed : Int64) (s1_questions : Int32) (s1_rightOnes : Int32) (s1_wrongOnes : Int32) (s1_isKept : Int32) (s1_dares : Nat → Int32) (s1_times : Nat → Int32) (s2_seed : Int64) (s2_questions : Int32) (s2_rightOnes : Int32) (s2_wrongOnes : Int32) (s2_isKept : Int32) (s2_dares : Nat → Int32) (s2_times : Nat → Int32) (ta_size : Int32) (ta_hands : Nat → Int32) (ta_ones : Nat → Int32) (ta_cells : Nat → Int64) (tr_waited : Int32) (tr_size : Int32) (tr_hands : Nat → Int32) (m_readMany : Int32) (m_pupils : Int32) (m_mood : Int32) (m_length : Int32) (m_at : Int32) (m_faultAt : Int32) (m_drawn : Int64) (m_questions : Int32) (m_rights : Int32) (m_wrongs : Int32) (m_tapes : Int32) (m_trials : Int32) (m_read : Nat → Int32) (m_pupil : Nat → Int32) (m_dares : Nat → Int32) (m_times : Nat → Int32) (m_text : Nat → Int32) (m_joint : Nat → Int64) (m_others : Nat → Int64) (m_tapeHands : Nat → Int32) (m_tapeTaken : Nat → Int32) (m_trialHands : Nat → Int32) (m_trialWaited : Nat → Int32) (m_isKept : Nat → Int32) (m_keptDares : Nat → Int32) (m_keptTimes : Nat → Int32) (m_keptDrawn : Nat → Int64) (m_keptLesson : Nat → Int32), Rel (i + 1) tx_length tx_bytes ro_pupils ro_mood ro_letters ro_rows ro_columns ro_tenths ro_needs ro_toldDares le_seed le_questions le_rightOnes le_wrongOnes le_dares le_times s1_seed s1_questions s1_rightOnes s1_wrongOnes s1_isKept s1_dares s1_times s2_seed s2_questions s2_rightOnes s2_wrongOnes s2_isKept s2_dares s2_times ta_size ta_hands ta_ones tr_waited tr_size tr_hands m_pupils m_mood m_length m_drawn m_questions m_rights m_wrongs m_tapes m_trials m_pupil m_dares m_times m_text m_tapeHands m_tapeTaken m_trialHands m_trialWaited m_isKept m_keptDares m_keptTimes m_keptDrawn m_keptLesson → ∀ (w : va_W) (H : Heap) (locs : List Loc), va_P D vwCl w H → va_D (fun q : Nat => s.heap.size ≤ q) w → va_S (fun q : Nat => s.heap.size ≤ q) s.heap H locs → wAll a cI cJ cZ w tx_length tx_bytes ro_pupils ro_mood ro_letters ro_rows ro_columns ro_tenths ro_needs ro_toldDares le_seed le_questions le_rightOnes le_wrongOnes le_isKept le_dares le_times ha_cells ch_pupils ch_rule ch_ranks ch_eligible ch_eligibleAndRight ch_cells s1_seed s1_questions s1_rightOnes s1_wrongOnes s1_isKept s1_dares s1_times s2_seed s2_questions s2_rightOnes s2_wrongOnes s2_isKept s2_dares s2_times ta_size ta_hands ta_ones ta_cells tr_waited tr_size tr_hands m_readMany m_pupils m_mood m_length m_at m_faultAt m_drawn m_questions m_rights m_wrongs m_tapes m_trials m_read m_pupil m_dares m_times m_text m_joint m_others m_tapeHands m_tapeTaken m_trialHands m_trialWaited m_isKept m_keptDares m_keptTimes m_keptDrawn m_keptLesson → ∀ ls : Array Slot, lv_has ls 4 [(0, .ref b), (1, .ref (a 0)), (2, .ref (a 35)), (3, .int (nI i))] → W p l e room_1 s m #[Value.ref b] below meth c H locs 52 1402 (lw_Z below #[Value.ref b] s) (F0 m 1535 ls [])) : W p l e room_1 s m #[Value.ref b] below meth c H locs 52 1402 (lw_Z below #[Value.ref b] s) (F0 m 1416 ls []) := by
  obtain ⟨-, -, -, -, -, -, hX, hbl, -, -⟩ := C0
  obtain ⟨hx, hb, hr, hml, hown, hts, hlk, hK, hN⟩ := id X
  have hown : s.vm.findClass RL = some m.cls := hown
  have hbA : ¬ (fun q : Nat => s.heap.size ≤ q) b := Nat.not_le.mpr hbl
  obtain ⟨h0, h1, h2, h3, h4, h5, h6, h7, h8, h9, h10, h11, h12, h13, h14, h15, h16, h17, h18, h19, h20, h21, h22, h23, h24, h25, h26, h27, h28, h29, h30, h31, h32, h33, h34, h35, h36, h37, h38, h39, h40, h41, h42, h43, h44, h45, h46, h47, h48, h49, h50, h51⟩ := hw
  have i1 : vp_in (nI i + (1 : Int32)) L := by rw [show (1 : Int32) = nI 1 from rfl, nI_add]; exact vp_in_nI (by omega) (by omega)
  have i2 : vp_in (nI i + (2 : Int32)) L := by rw [show (2 : Int32) = nI 2 from rfl, nI_add]; exact vp_in_nI (by omega) (by omega)
  have i3 : vp_in (nI i + (3 : Int32)) L := by rw [show (3 : Int32) = nI 3 from rfl, nI_add]; exact vp_in_nI (by omega) (by omega)
  have i4 : vp_in (nI i + (4 : Int32)) L := by rw [show (4 : Int32) = nI 4 from rfl, nI_add]; exact vp_in_nI (by omega) (by omega)
  have i5 : vp_in (nI i + (5 : Int32)) L := by rw [show (5 : Int32) = nI 5 from rfl, nI_add]; exact vp_in_nI (by omega) (by omega)
  by_cases hz : xs (nI i + (2 : Int32)).toNatClampNeg = 0
  · obtain ⟨u, v, hu, hv, he, hR2⟩ := P_until i (by omega) tx_length tx_bytes ro_pupils ro_mood ro_letters ro_rows ro_columns ro_tenths ro_needs ro_toldDares le_seed le_questions le_rightOnes le_wrongOnes le_isKept le_dares le_times ha_cells ch_pupils ch_rule ch_ranks ch_eligible ch_eligibleAndRight ch_cells s1_seed s1_questions s1_rightOnes s1_wrongOnes s1_isKept s1_dares s1_times s2_seed s2_questions s2_rightOnes s2_wrongOnes s2_isKept s2_dares s2_times ta_size ta_hands ta_ones ta_cells tr_waited tr_size tr_hands m_readMany m_pupils m_mood m_length m_at m_faultAt m_drawn m_questions m_rights m_wrongs m_tapes m_trials m_read m_pupil m_dares m_times m_text m_joint m_others m_tapeHands m_tapeTaken m_trialHands m_trialWaited m_isKept m_keptDares m_keptTimes m_keptDrawn m_keptLesson (xs (nI i + (1 : Int32)).toNatClampNeg) (0 : Int32) (by decide) hR
    refine lv_aload_n hx hb dL_law_1416 rfl (lv_at hl 1 rfl) ?_
    refine lv_aload_n hx hb dL_law_1417 rfl (lv_at hl 0 rfl) ?_
    refine lv_iload_n hx hb dL_law_1418 rfl (lv_at hl 3 rfl) ?_
    refine lv_iconst (v := (1 : Int32)) hx hb dL_law_1419 (by decide) ?_
    refine lv_iadd hx hb dL_law_1420 ?_
    refine va_sld hx hb hX hbl hbA hS i1 dL_law_1421 ?_
    refine lv_aload_n hx hb dL_law_1422 rfl (lv_at hl 0 rfl) ?_
    refine lv_iload_n hx hb dL_law_1423 rfl (lv_at hl 3 rfl) ?_
    refine lv_iconst (v := (2 : Int32)) hx hb dL_law_1424 (by decide) ?_
    refine lv_iadd hx hb dL_law_1425 ?_
    refine va_sld hx hb hX hbl hbA hS i2 dL_law_1426 ?_
    refine lv_if_eq (tgt := 1434) hx hb dL_law_1427 (by decide) (fun _ => ?_) (fun q => absurd hz q)
    refine lv_iconst (v := (0 : Int32)) hx hb dL_law_1434 (by decide) ?_
    refine rd_l (runV (As := [.int (xs (nI i + (1 : Int32)).toNatClampNeg), .int (0 : Int32)]) (rest := []) X cq_X8_until lk_L_151 (c_X8_until l D cI cJ cZ a ws0 (xs (nI i + (1 : Int32)).toNatClampNeg) (0 : Int32) u hu ) rfl rfl ⟨Nat.le_of_ble_eq_true rfl, Nat.le_of_ble_eq_true rfl⟩ hP h0 rfl rfl hl.1 rfl (Nat.le_of_ble_eq_true rfl) dL_law_1435 ⟨Nat.le_of_ble_eq_true rfl, Nat.le_of_ble_eq_true rfl⟩) ?_
    refine lv_aload_n hx hb dL_law_1438 rfl (lv_at hl 2 rfl) ?_
    refine lv_aload_n hx hb dL_law_1439 rfl (lv_at hl 0 rfl) ?_
    refine lv_iload_n hx hb dL_law_1440 rfl (lv_at hl 3 rfl) ?_
    refine lv_iconst (v := (1 : Int32)) hx hb dL_law_1441 (by decide) ?_
    refine lv_iadd hx hb dL_law_1442 ?_
    refine va_sld hx hb hX hbl hbA hS i1 dL_law_1443 ?_
    refine lv_aload_n hx hb dL_law_1444 rfl (lv_at hl 0 rfl) ?_
    refine lv_iload_n hx hb dL_law_1445 rfl (lv_at hl 3 rfl) ?_
    refine lv_iconst (v := (2 : Int32)) hx hb dL_law_1446 (by decide) ?_
    refine lv_iadd hx hb dL_law_1447 ?_
    refine va_sld hx hb hX hbl hbA hS i2 dL_law_1448 ?_
    refine lv_if_eq (tgt := 1456) hx hb dL_law_1449 (by decide) (fun _ => ?_) (fun q => absurd hz q)
    refine lv_iconst (v := (0 : Int32)) hx hb dL_law_1456 (by decide) ?_
    refine rd_l (runV (As := [.int (xs (nI i + (1 : Int32)).toNatClampNeg), .int (0 : Int32)]) (rest := [.long u]) X cq_X9_until lk_L_154 (c_X9_until l D cI cJ cZ a ws0 (xs (nI i + (1 : Int32)).toNatClampNeg) (0 : Int32) v hv ) rfl rfl ⟨Nat.le_of_ble_eq_true rfl, Nat.le_of_ble_eq_true rfl⟩ hP h35 rfl rfl hl.1 rfl (Nat.le_of_ble_eq_true rfl) dL_law_1457 ⟨Nat.le_of_ble_eq_true rfl, Nat.le_of_ble_eq_true rfl⟩) ?_
    refine W.lcmp hx hb dL_law_1460 ?_
    refine lv_if_eq (tgt := 1535) hx hb dL_law_1461 (by decide) (fun _ => ?_) (fun q => absurd ((lc_eq _ _).mpr he) q)
    exact KK tx_length tx_bytes ro_pupils ro_mood ro_letters ro_rows ro_columns ro_tenths ro_needs ro_toldDares le_seed le_questions le_rightOnes le_wrongOnes le_isKept le_dares le_times ha_cells ch_pupils ch_rule ch_ranks ch_eligible ch_eligibleAndRight ch_cells s1_seed s1_questions s1_rightOnes s1_wrongOnes s1_isKept s1_dares s1_times s2_seed s2_questions s2_rightOnes s2_wrongOnes s2_isKept s2_dares s2_times ta_size ta_hands ta_ones ta_cells tr_waited tr_size tr_hands m_readMany m_pupils m_mood m_length m_at m_faultAt m_drawn m_questions m_rights m_wrongs m_tapes m_trials m_read m_pupil m_dares m_times m_text m_joint m_others m_tapeHands m_tapeTaken m_trialHands m_trialWaited m_isKept m_keptDares m_keptTimes m_keptDrawn m_keptLesson hR2 _ _ _ hP hD hS ⟨h0, h1, h2, h3, h4, h5, h6, h7, h8, h9, h10, h11, h12, h13, h14, h15, h16, h17, h18, h19, h20, h21, h22, h23, h24, h25, h26, h27, h28, h29, h30, h31, h32, h33, h34, h35, h36, h37, h38, h39, h40, h41, h42, h43, h44, h45, h46, h47, h48, h49, h50, h51⟩ ls hl
  · obtain ⟨u, v, hu, hv, he, hR2⟩ := P_until i (by omega) tx_length tx_bytes ro_pupils ro_mood ro_letters ro_rows ro_columns ro_tenths ro_needs ro_toldDares le_seed le_questions le_rightOnes le_wrongOnes le_isKept le_dares le_times ha_cells ch_pupils ch_rule ch_ranks ch_eligible ch_eligibleAndRight ch_cells s1_seed s1_questions s1_rightOnes s1_wrongOnes s1_isKept s1_dares s1_times s2_seed s2_questions s2_rightOnes s2_wrongOnes s2_isKept s2_dares s2_times ta_size ta_hands ta_ones ta_cells tr_waited tr_size tr_hands m_readMany m_pupils m_mood m_length m_at m_faultAt m_drawn m_questions m_rights m_wrongs m_tapes m_trials m_read m_pupil m_dares m_times m_text m_joint m_others m_tapeHands m_tapeTaken m_trialHands m_trialWaited m_isKept m_keptDares m_keptTimes m_keptDrawn m_keptLesson (xs (nI i + (1 : Int32)).toNatClampNeg) (1 : Int32) (by decide) hR
    refine lv_aload_n hx hb dL_law_1416 rfl (lv_at hl 1 rfl) ?_
    refine lv_aload_n hx hb dL_law_1417 rfl (lv_at hl 0 rfl) ?_
    refine lv_iload_n hx hb dL_law_1418 rfl (lv_at hl 3 rfl) ?_
    refine lv_iconst (v := (1 : Int32)) hx hb dL_law_1419 (by decide) ?_
    refine lv_iadd hx hb dL_law_1420 ?_
    refine va_sld hx hb hX hbl hbA hS i1 dL_law_1421 ?_
    refine lv_aload_n hx hb dL_law_1422 rfl (lv_at hl 0 rfl) ?_
    refine lv_iload_n hx hb dL_law_1423 rfl (lv_at hl 3 rfl) ?_
    refine lv_iconst (v := (2 : Int32)) hx hb dL_law_1424 (by decide) ?_
    refine lv_iadd hx hb dL_law_1425 ?_
    refine va_sld hx hb hX hbl hbA hS i2 dL_law_1426 ?_
    refine lv_if_eq (tgt := 1434) hx hb dL_law_1427 (by decide) (fun q => absurd q hz) (fun _ => ?_)
    refine lv_iconst (v := (1 : Int32)) hx hb dL_law_1430 (by decide) ?_
    refine lv_goto (tgt := 1435) hx hb dL_law_1431 (by decide) ?_
    refine rd_l (runV (As := [.int (xs (nI i + (1 : Int32)).toNatClampNeg), .int (1 : Int32)]) (rest := []) X cq_X8_until lk_L_151 (c_X8_until l D cI cJ cZ a ws0 (xs (nI i + (1 : Int32)).toNatClampNeg) (1 : Int32) u hu ) rfl rfl ⟨Nat.le_of_ble_eq_true rfl, Nat.le_of_ble_eq_true rfl⟩ hP h0 rfl rfl hl.1 rfl (Nat.le_of_ble_eq_true rfl) dL_law_1435 ⟨Nat.le_of_ble_eq_true rfl, Nat.le_of_ble_eq_true rfl⟩) ?_
    refine lv_aload_n hx hb dL_law_1438 rfl (lv_at hl 2 rfl) ?_
    refine lv_aload_n hx hb dL_law_1439 rfl (lv_at hl 0 rfl) ?_
    refine lv_iload_n hx hb dL_law_1440 rfl (lv_at hl 3 rfl) ?_
    refine lv_iconst (v := (1 : Int32)) hx hb dL_law_1441 (by decide) ?_
    refine lv_iadd hx hb dL_law_1442 ?_
    refine va_sld hx hb hX hbl hbA hS i1 dL_law_1443 ?_
    refine lv_aload_n hx hb dL_law_1444 rfl (lv_at hl 0 rfl) ?_
    refine lv_iload_n hx hb dL_law_1445 rfl (lv_at hl 3 rfl) ?_
    refine lv_iconst (v := (2 : Int32)) hx hb dL_law_1446 (by decide) ?_
    refine lv_iadd hx hb dL_law_1447 ?_
    refine va_sld hx hb hX hbl hbA hS i2 dL_law_1448 ?_
    refine lv_if_eq (tgt := 1456) hx hb dL_law_1449 (by decide) (fun q => absurd q hz) (fun _ => ?_)
    refine lv_iconst (v := (1 : Int32)) hx hb dL_law_1452 (by decide) ?_
    refine lv_goto (tgt := 1457) hx hb dL_law_1453 (by decide) ?_
    refine rd_l (runV (As := [.int (xs (nI i + (1 : Int32)).toNatClampNeg), .int (1 : Int32)]) (rest := [.long u]) X cq_X9_until lk_L_154 (c_X9_until l D cI cJ cZ a ws0 (xs (nI i + (1 : Int32)).toNatClampNeg) (1 : Int32) v hv ) rfl rfl ⟨Nat.le_of_ble_eq_true rfl, Nat.le_of_ble_eq_true rfl⟩ hP h35 rfl rfl hl.1 rfl (Nat.le_of_ble_eq_true rfl) dL_law_1457 ⟨Nat.le_of_ble_eq_true rfl, Nat.le_of_ble_eq_true rfl⟩) ?_
    refine W.lcmp hx hb dL_law_1460 ?_
    refine lv_if_eq (tgt := 1535) hx hb dL_law_1461 (by decide) (fun _ => ?_) (fun q => absurd ((lc_eq _ _).mpr he) q)
    exact KK tx_length tx_bytes ro_pupils ro_mood ro_letters ro_rows ro_columns ro_tenths ro_needs ro_toldDares le_seed le_questions le_rightOnes le_wrongOnes le_isKept le_dares le_times ha_cells ch_pupils ch_rule ch_ranks ch_eligible ch_eligibleAndRight ch_cells s1_seed s1_questions s1_rightOnes s1_wrongOnes s1_isKept s1_dares s1_times s2_seed s2_questions s2_rightOnes s2_wrongOnes s2_isKept s2_dares s2_times ta_size ta_hands ta_ones ta_cells tr_waited tr_size tr_hands m_readMany m_pupils m_mood m_length m_at m_faultAt m_drawn m_questions m_rights m_wrongs m_tapes m_trials m_read m_pupil m_dares m_times m_text m_joint m_others m_tapeHands m_tapeTaken m_trialHands m_trialWaited m_isKept m_keptDares m_keptTimes m_keptDrawn m_keptLesson hR2 _ _ _ hP hD hS ⟨h0, h1, h2, h3, h4, h5, h6, h7, h8, h9, h10, h11, h12, h13, h14, h15, h16, h17, h18, h19, h20, h21, h22, h23, h24, h25, h26, h27, h28, h29, h30, h31, h32, h33, h34, h35, h36, h37, h38, h39, h40, h41, h42, h43, h44, h45, h46, h47, h48, h49, h50, h51⟩ ls hl
set_option maxHeartbeats 4000000 in
set_option maxRecDepth 100000 in
theorem case_32 {p : Program} {l : Launch} {e : Env} {s : State} {m : MethodId} {below : List Frame} {meth : Method} {c : Code} {D : va_G} {cI cJ cZ : ClassId} {a : Nat → Nat} {b L : Nat} {xs : Nat → Int32} (C0 : lw_At p s m meth c b L xs) (X : Cx yL_law code 4 ret D cI cJ cZ p s m #[Value.ref b] meth c) (i : Nat) (hi : i + 5 < L) (hL : L ≤ 3072) (tx_length : Int32) (tx_bytes : Nat → Int32) (ro_pupils : Int32) (ro_mood : Int32) (ro_letters : Nat → Int32) (ro_rows : Nat → Int32) (ro_columns : Nat → Int32) (ro_tenths : Nat → Int32) (ro_needs : Nat → Int32) (ro_toldDares : Nat → Int32) (le_seed : Int64) (le_questions : Int32) (le_rightOnes : Int32) (le_wrongOnes : Int32) (le_isKept : Int32) (le_dares : Nat → Int32) (le_times : Nat → Int32) (ha_cells : Nat → Int64) (ch_pupils : Int32) (ch_rule : Int32) (ch_ranks : Nat → Int32) (ch_eligible : Nat → Int32) (ch_eligibleAndRight : Nat → Int32) (ch_cells : Nat → Int64) (s1_seed : Int64) (s1_questions : Int32) (s1_rightOnes : Int32) (s1_wrongOnes : Int32) (s1_isKept : Int32) (s1_dares : Nat → Int32) (s1_times : Nat → Int32) (s2_seed : Int64) (s2_questions : Int32) (s2_rightOnes : Int32) (s2_wrongOnes : Int32) (s2_isKept : Int32) (s2_dares : Nat → Int32) (s2_times : Nat → Int32) (ta_size : Int32) (ta_hands : Nat → Int32) (ta_ones : Nat → Int32) (ta_cells : Nat → Int64) (tr_waited : Int32) (tr_size : Int32) (tr_hands : Nat → Int32) (m_readMany : Int32) (m_pupils : Int32) (m_mood : Int32) (m_length : Int32) (m_at : Int32) (m_faultAt : Int32) (m_drawn : Int64) (m_questions : Int32) (m_rights : Int32) (m_wrongs : Int32) (m_tapes : Int32) (m_trials : Int32) (m_read : Nat → Int32) (m_pupil : Nat → Int32) (m_dares : Nat → Int32) (m_times : Nat → Int32) (m_text : Nat → Int32) (m_joint : Nat → Int64) (m_others : Nat → Int64) (m_tapeHands : Nat → Int32) (m_tapeTaken : Nat → Int32) (m_trialHands : Nat → Int32) (m_trialWaited : Nat → Int32) (m_isKept : Nat → Int32) (m_keptDares : Nat → Int32) (m_keptTimes : Nat → Int32) (m_keptDrawn : Nat → Int64) (m_keptLesson : Nat → Int32) (hR : Rel i tx_length tx_bytes ro_pupils ro_mood ro_letters ro_rows ro_columns ro_tenths ro_needs ro_toldDares le_seed le_questions le_rightOnes le_wrongOnes le_dares le_times s1_seed s1_questions s1_rightOnes s1_wrongOnes s1_isKept s1_dares s1_times s2_seed s2_questions s2_rightOnes s2_wrongOnes s2_isKept s2_dares s2_times ta_size ta_hands ta_ones tr_waited tr_size tr_hands m_pupils m_mood m_length m_drawn m_questions m_rights m_wrongs m_tapes m_trials m_pupil m_dares m_times m_text m_tapeHands m_tapeTaken m_trialHands m_trialWaited m_isKept m_keptDares m_keptTimes m_keptDrawn m_keptLesson) (ws0 : va_W) (H : Heap) (locs : List Loc) (hP : va_P D vwCl ws0 H) (hD : va_D (fun q : Nat => s.heap.size ≤ q) ws0) (hS : va_S (fun q : Nat => s.heap.size ≤ q) s.heap H locs) (hw : wAll a cI cJ cZ ws0 tx_length tx_bytes ro_pupils ro_mood ro_letters ro_rows ro_columns ro_tenths ro_needs ro_toldDares le_seed le_questions le_rightOnes le_wrongOnes le_isKept le_dares le_times ha_cells ch_pupils ch_rule ch_ranks ch_eligible ch_eligibleAndRight ch_cells s1_seed s1_questions s1_rightOnes s1_wrongOnes s1_isKept s1_dares s1_times s2_seed s2_questions s2_rightOnes s2_wrongOnes s2_isKept s2_dares s2_times ta_size ta_hands ta_ones ta_cells tr_waited tr_size tr_hands m_readMany m_pupils m_mood m_length m_at m_faultAt m_drawn m_questions m_rights m_wrongs m_tapes m_trials m_read m_pupil m_dares m_times m_text m_joint m_others m_tapeHands m_tapeTaken m_trialHands m_trialWaited m_isKept m_keptDares m_keptTimes m_keptDrawn m_keptLesson) (ls : Array Slot) (hl : lv_has ls 4 [(0, .ref b), (1, .ref (a 0)), (2, .ref (a 35)), (3, .int (nI i))]) (KK : ∀ (tx_length : Int32) (tx_bytes : Nat → Int32) (ro_pupils : Int32) (ro_mood : Int32) (ro_letters : Nat → Int32) (ro_rows : Nat → Int32) (ro_columns : Nat → Int32) (ro_tenths : Nat → Int32) (ro_needs : Nat → Int32) (ro_toldDares : Nat → Int32) (le_seed : Int64) (le_questions : Int32) (le_rightOnes : Int32) (le_wrongOnes : Int32) (le_isKept : Int32) (le_dares : Nat → Int32) (le_times : Nat → Int32) (ha_cells : Nat → Int64) (ch_pupils : Int32) (ch_rule : Int32) (ch_ranks : Nat → Int32) (ch_eligible : Nat → Int32) (ch_eligibleAndRight : Nat → Int32) (ch_cells : Nat → Int64) (s1_seed : Int64) (s1_questions : Int32) (s1_rightOnes : Int32) (s1_wrongOnes : Int32) (s1_isKept : Int32) (s1_dares : Nat → Int32) (s1_times : Nat → Int32) (s2_seed : Int64) (s2_questions : Int32) (s2_rightOnes : Int32) (s2_wrongOnes : Int32) (s2_isKept : Int32) (s2_dares : Nat → Int32) (s2_times : Nat → Int32) (ta_size : Int32) (ta_hands : Nat → Int32) (ta_ones : Nat → Int32) (ta_cells : Nat → Int64) (tr_waited : Int32) (tr_size : Int32) (tr_hands : Nat → Int32) (m_readMany : Int32) (m_pupils : Int32) (m_mood : Int32) (m_length : Int32) (m_at : Int32) (m_faultAt : Int32) (m_drawn : Int64) (m_questions : Int32) (m_rights : Int32) (m_wrongs : Int32) (m_tapes : Int32) (m_trials : Int32) (m_read : Nat → Int32) (m_pupil : Nat → Int32) (m_dares : Nat → Int32) (m_times : Nat → Int32) (m_text : Nat → Int32) (m_joint : Nat → Int64) (m_others : Nat → Int64) (m_tapeHands : Nat → Int32) (m_tapeTaken : Nat → Int32) (m_trialHands : Nat → Int32) (m_trialWaited : Nat → Int32) (m_isKept : Nat → Int32) (m_keptDares : Nat → Int32) (m_keptTimes : Nat → Int32) (m_keptDrawn : Nat → Int64) (m_keptLesson : Nat → Int32), Rel (i + 1) tx_length tx_bytes ro_pupils ro_mood ro_letters ro_rows ro_columns ro_tenths ro_needs ro_toldDares le_seed le_questions le_rightOnes le_wrongOnes le_dares le_times s1_seed s1_questions s1_rightOnes s1_wrongOnes s1_isKept s1_dares s1_times s2_seed s2_questions s2_rightOnes s2_wrongOnes s2_isKept s2_dares s2_times ta_size ta_hands ta_ones tr_waited tr_size tr_hands m_pupils m_mood m_length m_drawn m_questions m_rights m_wrongs m_tapes m_trials m_pupil m_dares m_times m_text m_tapeHands m_tapeTaken m_trialHands m_trialWaited m_isKept m_keptDares m_keptTimes m_keptDrawn m_keptLesson → ∀ (w : va_W) (H : Heap) (locs : List Loc), va_P D vwCl w H → va_D (fun q : Nat => s.heap.size ≤ q) w → va_S (fun q : Nat => s.heap.size ≤ q) s.heap H locs → wAll a cI cJ cZ w tx_length tx_bytes ro_pupils ro_mood ro_letters ro_rows ro_columns ro_tenths ro_needs ro_toldDares le_seed le_questions le_rightOnes le_wrongOnes le_isKept le_dares le_times ha_cells ch_pupils ch_rule ch_ranks ch_eligible ch_eligibleAndRight ch_cells s1_seed s1_questions s1_rightOnes s1_wrongOnes s1_isKept s1_dares s1_times s2_seed s2_questions s2_rightOnes s2_wrongOnes s2_isKept s2_dares s2_times ta_size ta_hands ta_ones ta_cells tr_waited tr_size tr_hands m_readMany m_pupils m_mood m_length m_at m_faultAt m_drawn m_questions m_rights m_wrongs m_tapes m_trials m_read m_pupil m_dares m_times m_text m_joint m_others m_tapeHands m_tapeTaken m_trialHands m_trialWaited m_isKept m_keptDares m_keptTimes m_keptDrawn m_keptLesson → ∀ ls : Array Slot, lv_has ls 4 [(0, .ref b), (1, .ref (a 0)), (2, .ref (a 35)), (3, .int (nI i))] → W p l e room_1 s m #[Value.ref b] below meth c H locs 52 1402 (lw_Z below #[Value.ref b] s) (F0 m 1535 ls [])) : W p l e room_1 s m #[Value.ref b] below meth c H locs 52 1402 (lw_Z below #[Value.ref b] s) (F0 m 1466 ls []) := by
  obtain ⟨-, -, -, -, -, -, hX, hbl, -, -⟩ := C0
  obtain ⟨hx, hb, hr, hml, hown, hts, hlk, hK, hN⟩ := id X
  have hown : s.vm.findClass RL = some m.cls := hown
  have hbA : ¬ (fun q : Nat => s.heap.size ≤ q) b := Nat.not_le.mpr hbl
  obtain ⟨h0, h1, h2, h3, h4, h5, h6, h7, h8, h9, h10, h11, h12, h13, h14, h15, h16, h17, h18, h19, h20, h21, h22, h23, h24, h25, h26, h27, h28, h29, h30, h31, h32, h33, h34, h35, h36, h37, h38, h39, h40, h41, h42, h43, h44, h45, h46, h47, h48, h49, h50, h51⟩ := hw
  have i1 : vp_in (nI i + (1 : Int32)) L := by rw [show (1 : Int32) = nI 1 from rfl, nI_add]; exact vp_in_nI (by omega) (by omega)
  have i2 : vp_in (nI i + (2 : Int32)) L := by rw [show (2 : Int32) = nI 2 from rfl, nI_add]; exact vp_in_nI (by omega) (by omega)
  have i3 : vp_in (nI i + (3 : Int32)) L := by rw [show (3 : Int32) = nI 3 from rfl, nI_add]; exact vp_in_nI (by omega) (by omega)
  have i4 : vp_in (nI i + (4 : Int32)) L := by rw [show (4 : Int32) = nI 4 from rfl, nI_add]; exact vp_in_nI (by omega) (by omega)
  have i5 : vp_in (nI i + (5 : Int32)) L := by rw [show (5 : Int32) = nI 5 from rfl, nI_add]; exact vp_in_nI (by omega) (by omega)
  obtain ⟨u, v, hu, hv, he, hR2⟩ := P_keep i (by omega) tx_length tx_bytes ro_pupils ro_mood ro_letters ro_rows ro_columns ro_tenths ro_needs ro_toldDares le_seed le_questions le_rightOnes le_wrongOnes le_isKept le_dares le_times ha_cells ch_pupils ch_rule ch_ranks ch_eligible ch_eligibleAndRight ch_cells s1_seed s1_questions s1_rightOnes s1_wrongOnes s1_isKept s1_dares s1_times s2_seed s2_questions s2_rightOnes s2_wrongOnes s2_isKept s2_dares s2_times ta_size ta_hands ta_ones ta_cells tr_waited tr_size tr_hands m_readMany m_pupils m_mood m_length m_at m_faultAt m_drawn m_questions m_rights m_wrongs m_tapes m_trials m_read m_pupil m_dares m_times m_text m_joint m_others m_tapeHands m_tapeTaken m_trialHands m_trialWaited m_isKept m_keptDares m_keptTimes m_keptDrawn m_keptLesson (xs (nI i + (1 : Int32)).toNatClampNeg)  hR
  refine lv_aload_n hx hb dL_law_1466 rfl (lv_at hl 1 rfl) ?_
  refine lv_aload_n hx hb dL_law_1467 rfl (lv_at hl 0 rfl) ?_
  refine lv_iload_n hx hb dL_law_1468 rfl (lv_at hl 3 rfl) ?_
  refine lv_iconst (v := (1 : Int32)) hx hb dL_law_1469 (by decide) ?_
  refine lv_iadd hx hb dL_law_1470 ?_
  refine va_sld hx hb hX hbl hbA hS i1 dL_law_1471 ?_
  refine wr_i (runV (As := [.int (xs (nI i + (1 : Int32)).toNatClampNeg)]) (rest := []) X cq_X8_keep lk_L_155 (c_X8_keep l D cI cJ cZ a ws0 (fun q : Nat => s.heap.size ≤ q) ro_pupils ro_mood le_seed le_questions le_rightOnes le_wrongOnes le_isKept le_dares le_times s1_seed s1_questions s1_rightOnes s1_wrongOnes s1_isKept s1_dares s1_times s2_seed s2_questions s2_rightOnes s2_wrongOnes s2_isKept s2_dares s2_times (xs (nI i + (1 : Int32)).toNatClampNeg) u hu h0 h3 h10 h11 h12 h22 h23 h24 h25 h26 h27 hD) rfl rfl ⟨Nat.le_of_ble_eq_true rfl, Nat.le_of_ble_eq_true rfl⟩ hP h0 rfl rfl hl.1 rfl (Nat.le_of_ble_eq_true rfl) dL_law_1472 ⟨Nat.le_of_ble_eq_true rfl, Nat.le_of_ble_eq_true rfl⟩) hS (fun w1 H locs hP hD hk hB hS => ?_)
  obtain ⟨hB0, hB1, hB2, hB3, hB4, hB5⟩ := hB
  have h23 : w1[23]? = some (a 23, .inl (cI, 12, .inl u.2.1)) := hB0
  have h24 : w1[24]? = some (a 24, .inl (cI, 12, .inl u.2.2.1)) := hB1
  have h22 : w1[22]? = some (a 22, .inr (2, [.ref (a 23), .ref (a 24), .long u.2.2.2.1, .int u.2.2.2.2.1, .int u.2.2.2.2.2.1, .int u.2.2.2.2.2.2.1, .int u.2.2.2.2.2.2.2.1])) := hB2
  have h26 : w1[26]? = some (a 26, .inl (cI, 12, .inl u.2.2.2.2.2.2.2.2.1)) := hB3
  have h27 : w1[27]? = some (a 27, .inl (cI, 12, .inl u.2.2.2.2.2.2.2.2.2.1)) := hB4
  have h25 : w1[25]? = some (a 25, .inr (2, [.ref (a 26), .ref (a 27), .long u.2.2.2.2.2.2.2.2.2.2.1, .int u.2.2.2.2.2.2.2.2.2.2.2.1, .int u.2.2.2.2.2.2.2.2.2.2.2.2.1, .int u.2.2.2.2.2.2.2.2.2.2.2.2.2.1, .int u.2.2.2.2.2.2.2.2.2.2.2.2.2.2])) := hB5
  have h0 := (hk 0 (by decide)).trans h0
  have h1 := (hk 1 (by decide)).trans h1
  have h2 := (hk 2 (by decide)).trans h2
  have h3 := (hk 3 (by decide)).trans h3
  have h4 := (hk 4 (by decide)).trans h4
  have h5 := (hk 5 (by decide)).trans h5
  have h6 := (hk 6 (by decide)).trans h6
  have h7 := (hk 7 (by decide)).trans h7
  have h8 := (hk 8 (by decide)).trans h8
  have h9 := (hk 9 (by decide)).trans h9
  have h10 := (hk 10 (by decide)).trans h10
  have h11 := (hk 11 (by decide)).trans h11
  have h12 := (hk 12 (by decide)).trans h12
  have h13 := (hk 13 (by decide)).trans h13
  have h14 := (hk 14 (by decide)).trans h14
  have h15 := (hk 15 (by decide)).trans h15
  have h16 := (hk 16 (by decide)).trans h16
  have h17 := (hk 17 (by decide)).trans h17
  have h18 := (hk 18 (by decide)).trans h18
  have h19 := (hk 19 (by decide)).trans h19
  have h20 := (hk 20 (by decide)).trans h20
  have h21 := (hk 21 (by decide)).trans h21
  have h28 := (hk 28 (by decide)).trans h28
  have h29 := (hk 29 (by decide)).trans h29
  have h30 := (hk 30 (by decide)).trans h30
  have h31 := (hk 31 (by decide)).trans h31
  have h32 := (hk 32 (by decide)).trans h32
  have h33 := (hk 33 (by decide)).trans h33
  have h34 := (hk 34 (by decide)).trans h34
  have h35 := (hk 35 (by decide)).trans h35
  have h36 := (hk 36 (by decide)).trans h36
  have h37 := (hk 37 (by decide)).trans h37
  have h38 := (hk 38 (by decide)).trans h38
  have h39 := (hk 39 (by decide)).trans h39
  have h40 := (hk 40 (by decide)).trans h40
  have h41 := (hk 41 (by decide)).trans h41
  have h42 := (hk 42 (by decide)).trans h42
  have h43 := (hk 43 (by decide)).trans h43
  have h44 := (hk 44 (by decide)).trans h44
  have h45 := (hk 45 (by decide)).trans h45
  have h46 := (hk 46 (by decide)).trans h46
  have h47 := (hk 47 (by decide)).trans h47
  have h48 := (hk 48 (by decide)).trans h48
  have h49 := (hk 49 (by decide)).trans h49
  have h50 := (hk 50 (by decide)).trans h50
  have h51 := (hk 51 (by decide)).trans h51
  refine lv_aload_n hx hb dL_law_1475 rfl (lv_at hl 2 rfl) ?_
  refine lv_aload_n hx hb dL_law_1476 rfl (lv_at hl 0 rfl) ?_
  refine lv_iload_n hx hb dL_law_1477 rfl (lv_at hl 3 rfl) ?_
  refine lv_iconst (v := (1 : Int32)) hx hb dL_law_1478 (by decide) ?_
  refine lv_iadd hx hb dL_law_1479 ?_
  refine va_sld hx hb hX hbl hbA hS i1 dL_law_1480 ?_
  refine wr_i (runV (As := [.int (xs (nI i + (1 : Int32)).toNatClampNeg)]) (rest := [.int u.1]) X cq_X9_keep lk_L_158 (c_X9_keep l D cI cJ cZ a w1 (fun q : Nat => s.heap.size ≤ q) m_readMany m_pupils m_mood m_length m_at m_faultAt m_drawn m_questions m_rights m_wrongs m_tapes m_trials m_isKept m_dares m_keptDares m_times m_keptTimes m_keptDrawn m_keptLesson (xs (nI i + (1 : Int32)).toNatClampNeg) v hv h35 h38 h39 h47 h48 h49 h50 h51 hD) rfl rfl ⟨Nat.le_of_ble_eq_true rfl, Nat.le_of_ble_eq_true rfl⟩ hP h35 rfl rfl hl.1 rfl (Nat.le_of_ble_eq_true rfl) dL_law_1481 ⟨Nat.le_of_ble_eq_true rfl, Nat.le_of_ble_eq_true rfl⟩) hS (fun w2 H locs hP hD hk hB hS => ?_)
  obtain ⟨hB0, hB1, hB2, hB3, hB4⟩ := hB
  have h47 : w2[47]? = some (a 47, .inl (cZ, 2, .inl v.2.1)) := hB0
  have h48 : w2[48]? = some (a 48, .inl (cI, 24, .inl v.2.2.1)) := hB1
  have h49 : w2[49]? = some (a 49, .inl (cI, 24, .inl v.2.2.2.1)) := hB2
  have h50 : w2[50]? = some (a 50, .inl (cJ, 2, .inr (.inl v.2.2.2.2.1))) := hB3
  have h51 : w2[51]? = some (a 51, .inl (cI, 6, .inl v.2.2.2.2.2)) := hB4
  have h0 := (hk 0 (by decide)).trans h0
  have h1 := (hk 1 (by decide)).trans h1
  have h2 := (hk 2 (by decide)).trans h2
  have h3 := (hk 3 (by decide)).trans h3
  have h4 := (hk 4 (by decide)).trans h4
  have h5 := (hk 5 (by decide)).trans h5
  have h6 := (hk 6 (by decide)).trans h6
  have h7 := (hk 7 (by decide)).trans h7
  have h8 := (hk 8 (by decide)).trans h8
  have h9 := (hk 9 (by decide)).trans h9
  have h10 := (hk 10 (by decide)).trans h10
  have h11 := (hk 11 (by decide)).trans h11
  have h12 := (hk 12 (by decide)).trans h12
  have h13 := (hk 13 (by decide)).trans h13
  have h14 := (hk 14 (by decide)).trans h14
  have h15 := (hk 15 (by decide)).trans h15
  have h16 := (hk 16 (by decide)).trans h16
  have h17 := (hk 17 (by decide)).trans h17
  have h18 := (hk 18 (by decide)).trans h18
  have h19 := (hk 19 (by decide)).trans h19
  have h20 := (hk 20 (by decide)).trans h20
  have h21 := (hk 21 (by decide)).trans h21
  have h22 := (hk 22 (by decide)).trans h22
  have h23 := (hk 23 (by decide)).trans h23
  have h24 := (hk 24 (by decide)).trans h24
  have h25 := (hk 25 (by decide)).trans h25
  have h26 := (hk 26 (by decide)).trans h26
  have h27 := (hk 27 (by decide)).trans h27
  have h28 := (hk 28 (by decide)).trans h28
  have h29 := (hk 29 (by decide)).trans h29
  have h30 := (hk 30 (by decide)).trans h30
  have h31 := (hk 31 (by decide)).trans h31
  have h32 := (hk 32 (by decide)).trans h32
  have h33 := (hk 33 (by decide)).trans h33
  have h34 := (hk 34 (by decide)).trans h34
  have h35 := (hk 35 (by decide)).trans h35
  have h36 := (hk 36 (by decide)).trans h36
  have h37 := (hk 37 (by decide)).trans h37
  have h38 := (hk 38 (by decide)).trans h38
  have h39 := (hk 39 (by decide)).trans h39
  have h40 := (hk 40 (by decide)).trans h40
  have h41 := (hk 41 (by decide)).trans h41
  have h42 := (hk 42 (by decide)).trans h42
  have h43 := (hk 43 (by decide)).trans h43
  have h44 := (hk 44 (by decide)).trans h44
  have h45 := (hk 45 (by decide)).trans h45
  have h46 := (hk 46 (by decide)).trans h46
  refine lv_icmp_eq (tgt := 1535) hx hb dL_law_1484 (by decide) (fun _ => ?_) (fun q => absurd he q)
  exact KK tx_length tx_bytes ro_pupils ro_mood ro_letters ro_rows ro_columns ro_tenths ro_needs ro_toldDares le_seed le_questions le_rightOnes le_wrongOnes le_isKept le_dares le_times ha_cells ch_pupils ch_rule ch_ranks ch_eligible ch_eligibleAndRight ch_cells u.2.2.2.1 u.2.2.2.2.1 u.2.2.2.2.2.1 u.2.2.2.2.2.2.1 u.2.2.2.2.2.2.2.1 u.2.1 u.2.2.1 u.2.2.2.2.2.2.2.2.2.2.1 u.2.2.2.2.2.2.2.2.2.2.2.1 u.2.2.2.2.2.2.2.2.2.2.2.2.1 u.2.2.2.2.2.2.2.2.2.2.2.2.2.1 u.2.2.2.2.2.2.2.2.2.2.2.2.2.2 u.2.2.2.2.2.2.2.2.1 u.2.2.2.2.2.2.2.2.2.1 ta_size ta_hands ta_ones ta_cells tr_waited tr_size tr_hands m_readMany m_pupils m_mood m_length m_at m_faultAt m_drawn m_questions m_rights m_wrongs m_tapes m_trials m_read m_pupil m_dares m_times m_text m_joint m_others m_tapeHands m_tapeTaken m_trialHands m_trialWaited v.2.1 v.2.2.1 v.2.2.2.1 v.2.2.2.2.1 v.2.2.2.2.2 hR2 _ _ _ hP hD hS ⟨h0, h1, h2, h3, h4, h5, h6, h7, h8, h9, h10, h11, h12, h13, h14, h15, h16, h17, h18, h19, h20, h21, h22, h23, h24, h25, h26, h27, h28, h29, h30, h31, h32, h33, h34, h35, h36, h37, h38, h39, h40, h41, h42, h43, h44, h45, h46, h47, h48, h49, h50, h51⟩ ls hl
set_option maxHeartbeats 4000000 in
set_option maxRecDepth 100000 in
theorem case_33 {p : Program} {l : Launch} {e : Env} {s : State} {m : MethodId} {below : List Frame} {meth : Method} {c : Code} {D : va_G} {cI cJ cZ : ClassId} {a : Nat → Nat} {b L : Nat} {xs : Nat → Int32} (C0 : lw_At p s m meth c b L xs) (X : Cx yL_law code 4 ret D cI cJ cZ p s m #[Value.ref b] meth c) (i : Nat) (hi : i + 5 < L) (hL : L ≤ 3072) (tx_length : Int32) (tx_bytes : Nat → Int32) (ro_pupils : Int32) (ro_mood : Int32) (ro_letters : Nat → Int32) (ro_rows : Nat → Int32) (ro_columns : Nat → Int32) (ro_tenths : Nat → Int32) (ro_needs : Nat → Int32) (ro_toldDares : Nat → Int32) (le_seed : Int64) (le_questions : Int32) (le_rightOnes : Int32) (le_wrongOnes : Int32) (le_isKept : Int32) (le_dares : Nat → Int32) (le_times : Nat → Int32) (ha_cells : Nat → Int64) (ch_pupils : Int32) (ch_rule : Int32) (ch_ranks : Nat → Int32) (ch_eligible : Nat → Int32) (ch_eligibleAndRight : Nat → Int32) (ch_cells : Nat → Int64) (s1_seed : Int64) (s1_questions : Int32) (s1_rightOnes : Int32) (s1_wrongOnes : Int32) (s1_isKept : Int32) (s1_dares : Nat → Int32) (s1_times : Nat → Int32) (s2_seed : Int64) (s2_questions : Int32) (s2_rightOnes : Int32) (s2_wrongOnes : Int32) (s2_isKept : Int32) (s2_dares : Nat → Int32) (s2_times : Nat → Int32) (ta_size : Int32) (ta_hands : Nat → Int32) (ta_ones : Nat → Int32) (ta_cells : Nat → Int64) (tr_waited : Int32) (tr_size : Int32) (tr_hands : Nat → Int32) (m_readMany : Int32) (m_pupils : Int32) (m_mood : Int32) (m_length : Int32) (m_at : Int32) (m_faultAt : Int32) (m_drawn : Int64) (m_questions : Int32) (m_rights : Int32) (m_wrongs : Int32) (m_tapes : Int32) (m_trials : Int32) (m_read : Nat → Int32) (m_pupil : Nat → Int32) (m_dares : Nat → Int32) (m_times : Nat → Int32) (m_text : Nat → Int32) (m_joint : Nat → Int64) (m_others : Nat → Int64) (m_tapeHands : Nat → Int32) (m_tapeTaken : Nat → Int32) (m_trialHands : Nat → Int32) (m_trialWaited : Nat → Int32) (m_isKept : Nat → Int32) (m_keptDares : Nat → Int32) (m_keptTimes : Nat → Int32) (m_keptDrawn : Nat → Int64) (m_keptLesson : Nat → Int32) (hR : Rel i tx_length tx_bytes ro_pupils ro_mood ro_letters ro_rows ro_columns ro_tenths ro_needs ro_toldDares le_seed le_questions le_rightOnes le_wrongOnes le_dares le_times s1_seed s1_questions s1_rightOnes s1_wrongOnes s1_isKept s1_dares s1_times s2_seed s2_questions s2_rightOnes s2_wrongOnes s2_isKept s2_dares s2_times ta_size ta_hands ta_ones tr_waited tr_size tr_hands m_pupils m_mood m_length m_drawn m_questions m_rights m_wrongs m_tapes m_trials m_pupil m_dares m_times m_text m_tapeHands m_tapeTaken m_trialHands m_trialWaited m_isKept m_keptDares m_keptTimes m_keptDrawn m_keptLesson) (ws0 : va_W) (H : Heap) (locs : List Loc) (hP : va_P D vwCl ws0 H) (hD : va_D (fun q : Nat => s.heap.size ≤ q) ws0) (hS : va_S (fun q : Nat => s.heap.size ≤ q) s.heap H locs) (hw : wAll a cI cJ cZ ws0 tx_length tx_bytes ro_pupils ro_mood ro_letters ro_rows ro_columns ro_tenths ro_needs ro_toldDares le_seed le_questions le_rightOnes le_wrongOnes le_isKept le_dares le_times ha_cells ch_pupils ch_rule ch_ranks ch_eligible ch_eligibleAndRight ch_cells s1_seed s1_questions s1_rightOnes s1_wrongOnes s1_isKept s1_dares s1_times s2_seed s2_questions s2_rightOnes s2_wrongOnes s2_isKept s2_dares s2_times ta_size ta_hands ta_ones ta_cells tr_waited tr_size tr_hands m_readMany m_pupils m_mood m_length m_at m_faultAt m_drawn m_questions m_rights m_wrongs m_tapes m_trials m_read m_pupil m_dares m_times m_text m_joint m_others m_tapeHands m_tapeTaken m_trialHands m_trialWaited m_isKept m_keptDares m_keptTimes m_keptDrawn m_keptLesson) (ls : Array Slot) (hl : lv_has ls 4 [(0, .ref b), (1, .ref (a 0)), (2, .ref (a 35)), (3, .int (nI i))]) (KK : ∀ (tx_length : Int32) (tx_bytes : Nat → Int32) (ro_pupils : Int32) (ro_mood : Int32) (ro_letters : Nat → Int32) (ro_rows : Nat → Int32) (ro_columns : Nat → Int32) (ro_tenths : Nat → Int32) (ro_needs : Nat → Int32) (ro_toldDares : Nat → Int32) (le_seed : Int64) (le_questions : Int32) (le_rightOnes : Int32) (le_wrongOnes : Int32) (le_isKept : Int32) (le_dares : Nat → Int32) (le_times : Nat → Int32) (ha_cells : Nat → Int64) (ch_pupils : Int32) (ch_rule : Int32) (ch_ranks : Nat → Int32) (ch_eligible : Nat → Int32) (ch_eligibleAndRight : Nat → Int32) (ch_cells : Nat → Int64) (s1_seed : Int64) (s1_questions : Int32) (s1_rightOnes : Int32) (s1_wrongOnes : Int32) (s1_isKept : Int32) (s1_dares : Nat → Int32) (s1_times : Nat → Int32) (s2_seed : Int64) (s2_questions : Int32) (s2_rightOnes : Int32) (s2_wrongOnes : Int32) (s2_isKept : Int32) (s2_dares : Nat → Int32) (s2_times : Nat → Int32) (ta_size : Int32) (ta_hands : Nat → Int32) (ta_ones : Nat → Int32) (ta_cells : Nat → Int64) (tr_waited : Int32) (tr_size : Int32) (tr_hands : Nat → Int32) (m_readMany : Int32) (m_pupils : Int32) (m_mood : Int32) (m_length : Int32) (m_at : Int32) (m_faultAt : Int32) (m_drawn : Int64) (m_questions : Int32) (m_rights : Int32) (m_wrongs : Int32) (m_tapes : Int32) (m_trials : Int32) (m_read : Nat → Int32) (m_pupil : Nat → Int32) (m_dares : Nat → Int32) (m_times : Nat → Int32) (m_text : Nat → Int32) (m_joint : Nat → Int64) (m_others : Nat → Int64) (m_tapeHands : Nat → Int32) (m_tapeTaken : Nat → Int32) (m_trialHands : Nat → Int32) (m_trialWaited : Nat → Int32) (m_isKept : Nat → Int32) (m_keptDares : Nat → Int32) (m_keptTimes : Nat → Int32) (m_keptDrawn : Nat → Int64) (m_keptLesson : Nat → Int32), Rel (i + 1) tx_length tx_bytes ro_pupils ro_mood ro_letters ro_rows ro_columns ro_tenths ro_needs ro_toldDares le_seed le_questions le_rightOnes le_wrongOnes le_dares le_times s1_seed s1_questions s1_rightOnes s1_wrongOnes s1_isKept s1_dares s1_times s2_seed s2_questions s2_rightOnes s2_wrongOnes s2_isKept s2_dares s2_times ta_size ta_hands ta_ones tr_waited tr_size tr_hands m_pupils m_mood m_length m_drawn m_questions m_rights m_wrongs m_tapes m_trials m_pupil m_dares m_times m_text m_tapeHands m_tapeTaken m_trialHands m_trialWaited m_isKept m_keptDares m_keptTimes m_keptDrawn m_keptLesson → ∀ (w : va_W) (H : Heap) (locs : List Loc), va_P D vwCl w H → va_D (fun q : Nat => s.heap.size ≤ q) w → va_S (fun q : Nat => s.heap.size ≤ q) s.heap H locs → wAll a cI cJ cZ w tx_length tx_bytes ro_pupils ro_mood ro_letters ro_rows ro_columns ro_tenths ro_needs ro_toldDares le_seed le_questions le_rightOnes le_wrongOnes le_isKept le_dares le_times ha_cells ch_pupils ch_rule ch_ranks ch_eligible ch_eligibleAndRight ch_cells s1_seed s1_questions s1_rightOnes s1_wrongOnes s1_isKept s1_dares s1_times s2_seed s2_questions s2_rightOnes s2_wrongOnes s2_isKept s2_dares s2_times ta_size ta_hands ta_ones ta_cells tr_waited tr_size tr_hands m_readMany m_pupils m_mood m_length m_at m_faultAt m_drawn m_questions m_rights m_wrongs m_tapes m_trials m_read m_pupil m_dares m_times m_text m_joint m_others m_tapeHands m_tapeTaken m_trialHands m_trialWaited m_isKept m_keptDares m_keptTimes m_keptDrawn m_keptLesson → ∀ ls : Array Slot, lv_has ls 4 [(0, .ref b), (1, .ref (a 0)), (2, .ref (a 35)), (3, .int (nI i))] → W p l e room_1 s m #[Value.ref b] below meth c H locs 52 1402 (lw_Z below #[Value.ref b] s) (F0 m 1535 ls [])) : W p l e room_1 s m #[Value.ref b] below meth c H locs 52 1402 (lw_Z below #[Value.ref b] s) (F0 m 1489 ls []) := by
  obtain ⟨-, -, -, -, -, -, hX, hbl, -, -⟩ := C0
  obtain ⟨hx, hb, hr, hml, hown, hts, hlk, hK, hN⟩ := id X
  have hown : s.vm.findClass RL = some m.cls := hown
  have hbA : ¬ (fun q : Nat => s.heap.size ≤ q) b := Nat.not_le.mpr hbl
  obtain ⟨h0, h1, h2, h3, h4, h5, h6, h7, h8, h9, h10, h11, h12, h13, h14, h15, h16, h17, h18, h19, h20, h21, h22, h23, h24, h25, h26, h27, h28, h29, h30, h31, h32, h33, h34, h35, h36, h37, h38, h39, h40, h41, h42, h43, h44, h45, h46, h47, h48, h49, h50, h51⟩ := hw
  have i1 : vp_in (nI i + (1 : Int32)) L := by rw [show (1 : Int32) = nI 1 from rfl, nI_add]; exact vp_in_nI (by omega) (by omega)
  have i2 : vp_in (nI i + (2 : Int32)) L := by rw [show (2 : Int32) = nI 2 from rfl, nI_add]; exact vp_in_nI (by omega) (by omega)
  have i3 : vp_in (nI i + (3 : Int32)) L := by rw [show (3 : Int32) = nI 3 from rfl, nI_add]; exact vp_in_nI (by omega) (by omega)
  have i4 : vp_in (nI i + (4 : Int32)) L := by rw [show (4 : Int32) = nI 4 from rfl, nI_add]; exact vp_in_nI (by omega) (by omega)
  have i5 : vp_in (nI i + (5 : Int32)) L := by rw [show (5 : Int32) = nI 5 from rfl, nI_add]; exact vp_in_nI (by omega) (by omega)
  obtain ⟨u, v, hu, hv, he, hR2⟩ := P_again i (by omega) tx_length tx_bytes ro_pupils ro_mood ro_letters ro_rows ro_columns ro_tenths ro_needs ro_toldDares le_seed le_questions le_rightOnes le_wrongOnes le_isKept le_dares le_times ha_cells ch_pupils ch_rule ch_ranks ch_eligible ch_eligibleAndRight ch_cells s1_seed s1_questions s1_rightOnes s1_wrongOnes s1_isKept s1_dares s1_times s2_seed s2_questions s2_rightOnes s2_wrongOnes s2_isKept s2_dares s2_times ta_size ta_hands ta_ones ta_cells tr_waited tr_size tr_hands m_readMany m_pupils m_mood m_length m_at m_faultAt m_drawn m_questions m_rights m_wrongs m_tapes m_trials m_read m_pupil m_dares m_times m_text m_joint m_others m_tapeHands m_tapeTaken m_trialHands m_trialWaited m_isKept m_keptDares m_keptTimes m_keptDrawn m_keptLesson (xs (nI i + (1 : Int32)).toNatClampNeg)  hR
  refine lv_aload_n hx hb dL_law_1489 rfl (lv_at hl 1 rfl) ?_
  refine lv_aload_n hx hb dL_law_1490 rfl (lv_at hl 0 rfl) ?_
  refine lv_iload_n hx hb dL_law_1491 rfl (lv_at hl 3 rfl) ?_
  refine lv_iconst (v := (1 : Int32)) hx hb dL_law_1492 (by decide) ?_
  refine lv_iadd hx hb dL_law_1493 ?_
  refine va_sld hx hb hX hbl hbA hS i1 dL_law_1494 ?_
  refine wr_i (runV (As := [.int (xs (nI i + (1 : Int32)).toNatClampNeg)]) (rest := []) X cq_X8_again lk_L_159 (c_X8_again l D cI cJ cZ a ws0 (fun q : Nat => s.heap.size ≤ q) s1_seed s1_questions s1_rightOnes s1_wrongOnes s1_isKept ro_pupils ro_mood s1_dares s1_times le_seed le_questions le_rightOnes le_wrongOnes le_isKept le_dares le_times s2_seed s2_questions s2_rightOnes s2_wrongOnes s2_isKept s2_dares s2_times (xs (nI i + (1 : Int32)).toNatClampNeg) u hu h0 h3 h10 h11 h12 h22 h23 h24 h25 h26 h27 hD) rfl rfl ⟨Nat.le_of_ble_eq_true rfl, Nat.le_of_ble_eq_true rfl⟩ hP h0 rfl rfl hl.1 rfl (Nat.le_of_ble_eq_true rfl) dL_law_1495 ⟨Nat.le_of_ble_eq_true rfl, Nat.le_of_ble_eq_true rfl⟩) hS (fun w1 H locs hP hD hk hB hS => ?_)
  obtain ⟨hB0, hB1, hB2⟩ := hB
  have h11 : w1[11]? = some (a 11, .inl (cI, 12, .inl u.2.1)) := hB0
  have h12 : w1[12]? = some (a 12, .inl (cI, 12, .inl u.2.2.1)) := hB1
  have h10 : w1[10]? = some (a 10, .inr (2, [.ref (a 11), .ref (a 12), .long u.2.2.2.1, .int u.2.2.2.2.1, .int u.2.2.2.2.2.1, .int u.2.2.2.2.2.2, .int le_isKept])) := hB2
  have h0 := (hk 0 (by decide)).trans h0
  have h1 := (hk 1 (by decide)).trans h1
  have h2 := (hk 2 (by decide)).trans h2
  have h3 := (hk 3 (by decide)).trans h3
  have h4 := (hk 4 (by decide)).trans h4
  have h5 := (hk 5 (by decide)).trans h5
  have h6 := (hk 6 (by decide)).trans h6
  have h7 := (hk 7 (by decide)).trans h7
  have h8 := (hk 8 (by decide)).trans h8
  have h9 := (hk 9 (by decide)).trans h9
  have h13 := (hk 13 (by decide)).trans h13
  have h14 := (hk 14 (by decide)).trans h14
  have h15 := (hk 15 (by decide)).trans h15
  have h16 := (hk 16 (by decide)).trans h16
  have h17 := (hk 17 (by decide)).trans h17
  have h18 := (hk 18 (by decide)).trans h18
  have h19 := (hk 19 (by decide)).trans h19
  have h20 := (hk 20 (by decide)).trans h20
  have h21 := (hk 21 (by decide)).trans h21
  have h22 := (hk 22 (by decide)).trans h22
  have h23 := (hk 23 (by decide)).trans h23
  have h24 := (hk 24 (by decide)).trans h24
  have h25 := (hk 25 (by decide)).trans h25
  have h26 := (hk 26 (by decide)).trans h26
  have h27 := (hk 27 (by decide)).trans h27
  have h28 := (hk 28 (by decide)).trans h28
  have h29 := (hk 29 (by decide)).trans h29
  have h30 := (hk 30 (by decide)).trans h30
  have h31 := (hk 31 (by decide)).trans h31
  have h32 := (hk 32 (by decide)).trans h32
  have h33 := (hk 33 (by decide)).trans h33
  have h34 := (hk 34 (by decide)).trans h34
  have h35 := (hk 35 (by decide)).trans h35
  have h36 := (hk 36 (by decide)).trans h36
  have h37 := (hk 37 (by decide)).trans h37
  have h38 := (hk 38 (by decide)).trans h38
  have h39 := (hk 39 (by decide)).trans h39
  have h40 := (hk 40 (by decide)).trans h40
  have h41 := (hk 41 (by decide)).trans h41
  have h42 := (hk 42 (by decide)).trans h42
  have h43 := (hk 43 (by decide)).trans h43
  have h44 := (hk 44 (by decide)).trans h44
  have h45 := (hk 45 (by decide)).trans h45
  have h46 := (hk 46 (by decide)).trans h46
  have h47 := (hk 47 (by decide)).trans h47
  have h48 := (hk 48 (by decide)).trans h48
  have h49 := (hk 49 (by decide)).trans h49
  have h50 := (hk 50 (by decide)).trans h50
  have h51 := (hk 51 (by decide)).trans h51
  refine lv_aload_n hx hb dL_law_1498 rfl (lv_at hl 2 rfl) ?_
  refine lv_aload_n hx hb dL_law_1499 rfl (lv_at hl 0 rfl) ?_
  refine lv_iload_n hx hb dL_law_1500 rfl (lv_at hl 3 rfl) ?_
  refine lv_iconst (v := (1 : Int32)) hx hb dL_law_1501 (by decide) ?_
  refine lv_iadd hx hb dL_law_1502 ?_
  refine va_sld hx hb hX hbl hbA hS i1 dL_law_1503 ?_
  refine wr_i (runV (As := [.int (xs (nI i + (1 : Int32)).toNatClampNeg)]) (rest := [.int u.1]) X cq_X9_again lk_L_162 (c_X9_again l D cI cJ cZ a w1 (fun q : Nat => s.heap.size ≤ q) m_readMany m_pupils m_mood m_length m_at m_faultAt m_drawn m_questions m_rights m_wrongs m_tapes m_trials m_isKept m_keptDares m_dares m_keptTimes m_times m_keptDrawn m_keptLesson (xs (nI i + (1 : Int32)).toNatClampNeg) v hv h35 h38 h39 h47 h48 h49 h50 h51 hD) rfl rfl ⟨Nat.le_of_ble_eq_true rfl, Nat.le_of_ble_eq_true rfl⟩ hP h35 rfl rfl hl.1 rfl (Nat.le_of_ble_eq_true rfl) dL_law_1504 ⟨Nat.le_of_ble_eq_true rfl, Nat.le_of_ble_eq_true rfl⟩) hS (fun w2 H locs hP hD hk hB hS => ?_)
  obtain ⟨hB0, hB1, hB2⟩ := hB
  have h38 : w2[38]? = some (a 38, .inl (cI, 12, .inl v.2.1)) := hB0
  have h39 : w2[39]? = some (a 39, .inl (cI, 12, .inl v.2.2.1)) := hB1
  have h35 : w2[35]? = some (a 35, .inr (9, [.ref (a 36), .int m_readMany, .ref (a 37), .int m_pupils, .ref (a 38), .ref (a 39), .int m_mood, .ref (a 40), .int m_length, .int m_at, .int m_faultAt, .ref (a 41), .ref (a 42), .long v.2.2.2.1, .int v.2.2.2.2.1, .int v.2.2.2.2.2.1, .int v.2.2.2.2.2.2, .int m_tapes, .ref (a 43), .ref (a 44), .int m_trials, .ref (a 45), .ref (a 46), .ref (a 47), .ref (a 48), .ref (a 49), .ref (a 50), .ref (a 51)])) := hB2
  have h0 := (hk 0 (by decide)).trans h0
  have h1 := (hk 1 (by decide)).trans h1
  have h2 := (hk 2 (by decide)).trans h2
  have h3 := (hk 3 (by decide)).trans h3
  have h4 := (hk 4 (by decide)).trans h4
  have h5 := (hk 5 (by decide)).trans h5
  have h6 := (hk 6 (by decide)).trans h6
  have h7 := (hk 7 (by decide)).trans h7
  have h8 := (hk 8 (by decide)).trans h8
  have h9 := (hk 9 (by decide)).trans h9
  have h10 := (hk 10 (by decide)).trans h10
  have h11 := (hk 11 (by decide)).trans h11
  have h12 := (hk 12 (by decide)).trans h12
  have h13 := (hk 13 (by decide)).trans h13
  have h14 := (hk 14 (by decide)).trans h14
  have h15 := (hk 15 (by decide)).trans h15
  have h16 := (hk 16 (by decide)).trans h16
  have h17 := (hk 17 (by decide)).trans h17
  have h18 := (hk 18 (by decide)).trans h18
  have h19 := (hk 19 (by decide)).trans h19
  have h20 := (hk 20 (by decide)).trans h20
  have h21 := (hk 21 (by decide)).trans h21
  have h22 := (hk 22 (by decide)).trans h22
  have h23 := (hk 23 (by decide)).trans h23
  have h24 := (hk 24 (by decide)).trans h24
  have h25 := (hk 25 (by decide)).trans h25
  have h26 := (hk 26 (by decide)).trans h26
  have h27 := (hk 27 (by decide)).trans h27
  have h28 := (hk 28 (by decide)).trans h28
  have h29 := (hk 29 (by decide)).trans h29
  have h30 := (hk 30 (by decide)).trans h30
  have h31 := (hk 31 (by decide)).trans h31
  have h32 := (hk 32 (by decide)).trans h32
  have h33 := (hk 33 (by decide)).trans h33
  have h34 := (hk 34 (by decide)).trans h34
  have h36 := (hk 36 (by decide)).trans h36
  have h37 := (hk 37 (by decide)).trans h37
  have h40 := (hk 40 (by decide)).trans h40
  have h41 := (hk 41 (by decide)).trans h41
  have h42 := (hk 42 (by decide)).trans h42
  have h43 := (hk 43 (by decide)).trans h43
  have h44 := (hk 44 (by decide)).trans h44
  have h45 := (hk 45 (by decide)).trans h45
  have h46 := (hk 46 (by decide)).trans h46
  have h47 := (hk 47 (by decide)).trans h47
  have h48 := (hk 48 (by decide)).trans h48
  have h49 := (hk 49 (by decide)).trans h49
  have h50 := (hk 50 (by decide)).trans h50
  have h51 := (hk 51 (by decide)).trans h51
  refine lv_icmp_eq (tgt := 1535) hx hb dL_law_1507 (by decide) (fun _ => ?_) (fun q => absurd he q)
  exact KK tx_length tx_bytes ro_pupils ro_mood ro_letters ro_rows ro_columns ro_tenths ro_needs ro_toldDares u.2.2.2.1 u.2.2.2.2.1 u.2.2.2.2.2.1 u.2.2.2.2.2.2 le_isKept u.2.1 u.2.2.1 ha_cells ch_pupils ch_rule ch_ranks ch_eligible ch_eligibleAndRight ch_cells s1_seed s1_questions s1_rightOnes s1_wrongOnes s1_isKept s1_dares s1_times s2_seed s2_questions s2_rightOnes s2_wrongOnes s2_isKept s2_dares s2_times ta_size ta_hands ta_ones ta_cells tr_waited tr_size tr_hands m_readMany m_pupils m_mood m_length m_at m_faultAt v.2.2.2.1 v.2.2.2.2.1 v.2.2.2.2.2.1 v.2.2.2.2.2.2 m_tapes m_trials m_read m_pupil v.2.1 v.2.2.1 m_text m_joint m_others m_tapeHands m_tapeTaken m_trialHands m_trialWaited m_isKept m_keptDares m_keptTimes m_keptDrawn m_keptLesson hR2 _ _ _ hP hD hS ⟨h0, h1, h2, h3, h4, h5, h6, h7, h8, h9, h10, h11, h12, h13, h14, h15, h16, h17, h18, h19, h20, h21, h22, h23, h24, h25, h26, h27, h28, h29, h30, h31, h32, h33, h34, h35, h36, h37, h38, h39, h40, h41, h42, h43, h44, h45, h46, h47, h48, h49, h50, h51⟩ ls hl
set_option maxHeartbeats 4000000 in
set_option maxRecDepth 100000 in
theorem case_34 {p : Program} {l : Launch} {e : Env} {s : State} {m : MethodId} {below : List Frame} {meth : Method} {c : Code} {D : va_G} {cI cJ cZ : ClassId} {a : Nat → Nat} {b L : Nat} {xs : Nat → Int32} (C0 : lw_At p s m meth c b L xs) (X : Cx yL_law code 4 ret D cI cJ cZ p s m #[Value.ref b] meth c) (i : Nat) (hi : i + 5 < L) (hL : L ≤ 3072) (tx_length : Int32) (tx_bytes : Nat → Int32) (ro_pupils : Int32) (ro_mood : Int32) (ro_letters : Nat → Int32) (ro_rows : Nat → Int32) (ro_columns : Nat → Int32) (ro_tenths : Nat → Int32) (ro_needs : Nat → Int32) (ro_toldDares : Nat → Int32) (le_seed : Int64) (le_questions : Int32) (le_rightOnes : Int32) (le_wrongOnes : Int32) (le_isKept : Int32) (le_dares : Nat → Int32) (le_times : Nat → Int32) (ha_cells : Nat → Int64) (ch_pupils : Int32) (ch_rule : Int32) (ch_ranks : Nat → Int32) (ch_eligible : Nat → Int32) (ch_eligibleAndRight : Nat → Int32) (ch_cells : Nat → Int64) (s1_seed : Int64) (s1_questions : Int32) (s1_rightOnes : Int32) (s1_wrongOnes : Int32) (s1_isKept : Int32) (s1_dares : Nat → Int32) (s1_times : Nat → Int32) (s2_seed : Int64) (s2_questions : Int32) (s2_rightOnes : Int32) (s2_wrongOnes : Int32) (s2_isKept : Int32) (s2_dares : Nat → Int32) (s2_times : Nat → Int32) (ta_size : Int32) (ta_hands : Nat → Int32) (ta_ones : Nat → Int32) (ta_cells : Nat → Int64) (tr_waited : Int32) (tr_size : Int32) (tr_hands : Nat → Int32) (m_readMany : Int32) (m_pupils : Int32) (m_mood : Int32) (m_length : Int32) (m_at : Int32) (m_faultAt : Int32) (m_drawn : Int64) (m_questions : Int32) (m_rights : Int32) (m_wrongs : Int32) (m_tapes : Int32) (m_trials : Int32) (m_read : Nat → Int32) (m_pupil : Nat → Int32) (m_dares : Nat → Int32) (m_times : Nat → Int32) (m_text : Nat → Int32) (m_joint : Nat → Int64) (m_others : Nat → Int64) (m_tapeHands : Nat → Int32) (m_tapeTaken : Nat → Int32) (m_trialHands : Nat → Int32) (m_trialWaited : Nat → Int32) (m_isKept : Nat → Int32) (m_keptDares : Nat → Int32) (m_keptTimes : Nat → Int32) (m_keptDrawn : Nat → Int64) (m_keptLesson : Nat → Int32) (hR : Rel i tx_length tx_bytes ro_pupils ro_mood ro_letters ro_rows ro_columns ro_tenths ro_needs ro_toldDares le_seed le_questions le_rightOnes le_wrongOnes le_dares le_times s1_seed s1_questions s1_rightOnes s1_wrongOnes s1_isKept s1_dares s1_times s2_seed s2_questions s2_rightOnes s2_wrongOnes s2_isKept s2_dares s2_times ta_size ta_hands ta_ones tr_waited tr_size tr_hands m_pupils m_mood m_length m_drawn m_questions m_rights m_wrongs m_tapes m_trials m_pupil m_dares m_times m_text m_tapeHands m_tapeTaken m_trialHands m_trialWaited m_isKept m_keptDares m_keptTimes m_keptDrawn m_keptLesson) (ws0 : va_W) (H : Heap) (locs : List Loc) (hP : va_P D vwCl ws0 H) (hD : va_D (fun q : Nat => s.heap.size ≤ q) ws0) (hS : va_S (fun q : Nat => s.heap.size ≤ q) s.heap H locs) (hw : wAll a cI cJ cZ ws0 tx_length tx_bytes ro_pupils ro_mood ro_letters ro_rows ro_columns ro_tenths ro_needs ro_toldDares le_seed le_questions le_rightOnes le_wrongOnes le_isKept le_dares le_times ha_cells ch_pupils ch_rule ch_ranks ch_eligible ch_eligibleAndRight ch_cells s1_seed s1_questions s1_rightOnes s1_wrongOnes s1_isKept s1_dares s1_times s2_seed s2_questions s2_rightOnes s2_wrongOnes s2_isKept s2_dares s2_times ta_size ta_hands ta_ones ta_cells tr_waited tr_size tr_hands m_readMany m_pupils m_mood m_length m_at m_faultAt m_drawn m_questions m_rights m_wrongs m_tapes m_trials m_read m_pupil m_dares m_times m_text m_joint m_others m_tapeHands m_tapeTaken m_trialHands m_trialWaited m_isKept m_keptDares m_keptTimes m_keptDrawn m_keptLesson) (ls : Array Slot) (hl : lv_has ls 4 [(0, .ref b), (1, .ref (a 0)), (2, .ref (a 35)), (3, .int (nI i))]) (KK : ∀ (tx_length : Int32) (tx_bytes : Nat → Int32) (ro_pupils : Int32) (ro_mood : Int32) (ro_letters : Nat → Int32) (ro_rows : Nat → Int32) (ro_columns : Nat → Int32) (ro_tenths : Nat → Int32) (ro_needs : Nat → Int32) (ro_toldDares : Nat → Int32) (le_seed : Int64) (le_questions : Int32) (le_rightOnes : Int32) (le_wrongOnes : Int32) (le_isKept : Int32) (le_dares : Nat → Int32) (le_times : Nat → Int32) (ha_cells : Nat → Int64) (ch_pupils : Int32) (ch_rule : Int32) (ch_ranks : Nat → Int32) (ch_eligible : Nat → Int32) (ch_eligibleAndRight : Nat → Int32) (ch_cells : Nat → Int64) (s1_seed : Int64) (s1_questions : Int32) (s1_rightOnes : Int32) (s1_wrongOnes : Int32) (s1_isKept : Int32) (s1_dares : Nat → Int32) (s1_times : Nat → Int32) (s2_seed : Int64) (s2_questions : Int32) (s2_rightOnes : Int32) (s2_wrongOnes : Int32) (s2_isKept : Int32) (s2_dares : Nat → Int32) (s2_times : Nat → Int32) (ta_size : Int32) (ta_hands : Nat → Int32) (ta_ones : Nat → Int32) (ta_cells : Nat → Int64) (tr_waited : Int32) (tr_size : Int32) (tr_hands : Nat → Int32) (m_readMany : Int32) (m_pupils : Int32) (m_mood : Int32) (m_length : Int32) (m_at : Int32) (m_faultAt : Int32) (m_drawn : Int64) (m_questions : Int32) (m_rights : Int32) (m_wrongs : Int32) (m_tapes : Int32) (m_trials : Int32) (m_read : Nat → Int32) (m_pupil : Nat → Int32) (m_dares : Nat → Int32) (m_times : Nat → Int32) (m_text : Nat → Int32) (m_joint : Nat → Int64) (m_others : Nat → Int64) (m_tapeHands : Nat → Int32) (m_tapeTaken : Nat → Int32) (m_trialHands : Nat → Int32) (m_trialWaited : Nat → Int32) (m_isKept : Nat → Int32) (m_keptDares : Nat → Int32) (m_keptTimes : Nat → Int32) (m_keptDrawn : Nat → Int64) (m_keptLesson : Nat → Int32), Rel (i + 1) tx_length tx_bytes ro_pupils ro_mood ro_letters ro_rows ro_columns ro_tenths ro_needs ro_toldDares le_seed le_questions le_rightOnes le_wrongOnes le_dares le_times s1_seed s1_questions s1_rightOnes s1_wrongOnes s1_isKept s1_dares s1_times s2_seed s2_questions s2_rightOnes s2_wrongOnes s2_isKept s2_dares s2_times ta_size ta_hands ta_ones tr_waited tr_size tr_hands m_pupils m_mood m_length m_drawn m_questions m_rights m_wrongs m_tapes m_trials m_pupil m_dares m_times m_text m_tapeHands m_tapeTaken m_trialHands m_trialWaited m_isKept m_keptDares m_keptTimes m_keptDrawn m_keptLesson → ∀ (w : va_W) (H : Heap) (locs : List Loc), va_P D vwCl w H → va_D (fun q : Nat => s.heap.size ≤ q) w → va_S (fun q : Nat => s.heap.size ≤ q) s.heap H locs → wAll a cI cJ cZ w tx_length tx_bytes ro_pupils ro_mood ro_letters ro_rows ro_columns ro_tenths ro_needs ro_toldDares le_seed le_questions le_rightOnes le_wrongOnes le_isKept le_dares le_times ha_cells ch_pupils ch_rule ch_ranks ch_eligible ch_eligibleAndRight ch_cells s1_seed s1_questions s1_rightOnes s1_wrongOnes s1_isKept s1_dares s1_times s2_seed s2_questions s2_rightOnes s2_wrongOnes s2_isKept s2_dares s2_times ta_size ta_hands ta_ones ta_cells tr_waited tr_size tr_hands m_readMany m_pupils m_mood m_length m_at m_faultAt m_drawn m_questions m_rights m_wrongs m_tapes m_trials m_read m_pupil m_dares m_times m_text m_joint m_others m_tapeHands m_tapeTaken m_trialHands m_trialWaited m_isKept m_keptDares m_keptTimes m_keptDrawn m_keptLesson → ∀ ls : Array Slot, lv_has ls 4 [(0, .ref b), (1, .ref (a 0)), (2, .ref (a 35)), (3, .int (nI i))] → W p l e room_1 s m #[Value.ref b] below meth c H locs 52 1402 (lw_Z below #[Value.ref b] s) (F0 m 1535 ls [])) : W p l e room_1 s m #[Value.ref b] below meth c H locs 52 1402 (lw_Z below #[Value.ref b] s) (F0 m 1512 ls []) := by
  obtain ⟨-, -, -, -, -, -, hX, hbl, -, -⟩ := C0
  obtain ⟨hx, hb, hr, hml, hown, hts, hlk, hK, hN⟩ := id X
  have hown : s.vm.findClass RL = some m.cls := hown
  have hbA : ¬ (fun q : Nat => s.heap.size ≤ q) b := Nat.not_le.mpr hbl
  obtain ⟨h0, h1, h2, h3, h4, h5, h6, h7, h8, h9, h10, h11, h12, h13, h14, h15, h16, h17, h18, h19, h20, h21, h22, h23, h24, h25, h26, h27, h28, h29, h30, h31, h32, h33, h34, h35, h36, h37, h38, h39, h40, h41, h42, h43, h44, h45, h46, h47, h48, h49, h50, h51⟩ := hw
  have i1 : vp_in (nI i + (1 : Int32)) L := by rw [show (1 : Int32) = nI 1 from rfl, nI_add]; exact vp_in_nI (by omega) (by omega)
  have i2 : vp_in (nI i + (2 : Int32)) L := by rw [show (2 : Int32) = nI 2 from rfl, nI_add]; exact vp_in_nI (by omega) (by omega)
  have i3 : vp_in (nI i + (3 : Int32)) L := by rw [show (3 : Int32) = nI 3 from rfl, nI_add]; exact vp_in_nI (by omega) (by omega)
  have i4 : vp_in (nI i + (4 : Int32)) L := by rw [show (4 : Int32) = nI 4 from rfl, nI_add]; exact vp_in_nI (by omega) (by omega)
  have i5 : vp_in (nI i + (5 : Int32)) L := by rw [show (5 : Int32) = nI 5 from rfl, nI_add]; exact vp_in_nI (by omega) (by omega)
  obtain ⟨u, v, hu, hv, he, hR2⟩ := P_count i (by omega) tx_length tx_bytes ro_pupils ro_mood ro_letters ro_rows ro_columns ro_tenths ro_needs ro_toldDares le_seed le_questions le_rightOnes le_wrongOnes le_isKept le_dares le_times ha_cells ch_pupils ch_rule ch_ranks ch_eligible ch_eligibleAndRight ch_cells s1_seed s1_questions s1_rightOnes s1_wrongOnes s1_isKept s1_dares s1_times s2_seed s2_questions s2_rightOnes s2_wrongOnes s2_isKept s2_dares s2_times ta_size ta_hands ta_ones ta_cells tr_waited tr_size tr_hands m_readMany m_pupils m_mood m_length m_at m_faultAt m_drawn m_questions m_rights m_wrongs m_tapes m_trials m_read m_pupil m_dares m_times m_text m_joint m_others m_tapeHands m_tapeTaken m_trialHands m_trialWaited m_isKept m_keptDares m_keptTimes m_keptDrawn m_keptLesson (xs (nI i + (1 : Int32)).toNatClampNeg)  hR
  refine lv_aload_n hx hb dL_law_1512 rfl (lv_at hl 1 rfl) ?_
  refine lv_aload_n hx hb dL_law_1513 rfl (lv_at hl 0 rfl) ?_
  refine lv_iload_n hx hb dL_law_1514 rfl (lv_at hl 3 rfl) ?_
  refine lv_iconst (v := (1 : Int32)) hx hb dL_law_1515 (by decide) ?_
  refine lv_iadd hx hb dL_law_1516 ?_
  refine va_sld hx hb hX hbl hbA hS i1 dL_law_1517 ?_
  refine rd_i (runV (As := [.int (xs (nI i + (1 : Int32)).toNatClampNeg)]) (rest := []) X cq_X8_count lk_L_163 (c_X8_count l D cI cJ cZ a ws0 tx_length ro_pupils ro_mood ta_size tr_waited tr_size (xs (nI i + (1 : Int32)).toNatClampNeg) u hu h0 h1 h3 h28 h33) rfl rfl ⟨Nat.le_of_ble_eq_true rfl, Nat.le_of_ble_eq_true rfl⟩ hP h0 rfl rfl hl.1 rfl (Nat.le_of_ble_eq_true rfl) dL_law_1518 ⟨Nat.le_of_ble_eq_true rfl, Nat.le_of_ble_eq_true rfl⟩) ?_
  refine lv_aload_n hx hb dL_law_1521 rfl (lv_at hl 2 rfl) ?_
  refine lv_aload_n hx hb dL_law_1522 rfl (lv_at hl 0 rfl) ?_
  refine lv_iload_n hx hb dL_law_1523 rfl (lv_at hl 3 rfl) ?_
  refine lv_iconst (v := (1 : Int32)) hx hb dL_law_1524 (by decide) ?_
  refine lv_iadd hx hb dL_law_1525 ?_
  refine va_sld hx hb hX hbl hbA hS i1 dL_law_1526 ?_
  refine rd_i (runV (As := [.int (xs (nI i + (1 : Int32)).toNatClampNeg)]) (rest := [.int u]) X cq_X9_count lk_L_166 (c_X9_count l D cI cJ cZ a ws0 m_readMany m_pupils m_mood m_length m_at m_faultAt m_drawn m_questions m_rights m_wrongs m_tapes m_trials m_trialWaited (xs (nI i + (1 : Int32)).toNatClampNeg) v hv h35 h46) rfl rfl ⟨Nat.le_of_ble_eq_true rfl, Nat.le_of_ble_eq_true rfl⟩ hP h35 rfl rfl hl.1 rfl (Nat.le_of_ble_eq_true rfl) dL_law_1527 ⟨Nat.le_of_ble_eq_true rfl, Nat.le_of_ble_eq_true rfl⟩) ?_
  refine lv_icmp_eq (tgt := 1535) hx hb dL_law_1530 (by decide) (fun _ => ?_) (fun q => absurd he q)
  exact KK tx_length tx_bytes ro_pupils ro_mood ro_letters ro_rows ro_columns ro_tenths ro_needs ro_toldDares le_seed le_questions le_rightOnes le_wrongOnes le_isKept le_dares le_times ha_cells ch_pupils ch_rule ch_ranks ch_eligible ch_eligibleAndRight ch_cells s1_seed s1_questions s1_rightOnes s1_wrongOnes s1_isKept s1_dares s1_times s2_seed s2_questions s2_rightOnes s2_wrongOnes s2_isKept s2_dares s2_times ta_size ta_hands ta_ones ta_cells tr_waited tr_size tr_hands m_readMany m_pupils m_mood m_length m_at m_faultAt m_drawn m_questions m_rights m_wrongs m_tapes m_trials m_read m_pupil m_dares m_times m_text m_joint m_others m_tapeHands m_tapeTaken m_trialHands m_trialWaited m_isKept m_keptDares m_keptTimes m_keptDrawn m_keptLesson hR2 _ _ _ hP hD hS ⟨h0, h1, h2, h3, h4, h5, h6, h7, h8, h9, h10, h11, h12, h13, h14, h15, h16, h17, h18, h19, h20, h21, h22, h23, h24, h25, h26, h27, h28, h29, h30, h31, h32, h33, h34, h35, h36, h37, h38, h39, h40, h41, h42, h43, h44, h45, h46, h47, h48, h49, h50, h51⟩ ls hl
