theorem kc_L_7 : Cond.constant RL 7 (747796405) ∈ lw_good := lw_g 523 (by decide +kernel) rfl
theorem kc_L_8 : Cond.constant RL 8 (2147483647) ∈ lw_good := lw_g 530 (by decide +kernel) rfl
theorem lk_L_9 : LK RL 9 yX8_put := Or.inl (lw_g 546 (by decide +kernel) rfl)
theorem mw_X8_put : MWi 8 yX8_put cX8_put 6 (some .int) 3 := ⟨lw_g 547 (by decide +kernel) rfl, lw_g 548 (by decide +kernel) rfl, lw_g 549 (by decide +kernel) rfl, lw_g 29 (by decide +kernel) rfl, by decide +kernel, by decide, ⟨_, rfl, rfl⟩⟩
theorem lk_L_21 : LK RL 21 yL_low := Or.inl (lw_g 527 (by decide +kernel) rfl)
theorem mw_L_low : MWs yL_low cL_low 2 (some .int) 2 := ⟨lw_g 528 (by decide +kernel) rfl, lw_g 529 (by decide +kernel) rfl, lw_g 28 (by decide +kernel) rfl, by decide +kernel, by decide⟩
theorem lk_L_25 : LK RL 25 yX8_text := Or.inl (lw_g 531 (by decide +kernel) rfl)
theorem mw_X8_text : MWi 8 yX8_text cX8_text 3 (some .int) 2 := ⟨lw_g 532 (by decide +kernel) rfl, lw_g 533 (by decide +kernel) rfl, lw_g 534 (by decide +kernel) rfl, lw_g 29 (by decide +kernel) rfl, by decide +kernel, by decide, ⟨_, rfl, rfl⟩⟩
theorem lk_L_28 : LK RL 28 yL_puts := Or.inl (lw_g 543 (by decide +kernel) rfl)
theorem mw_L_puts : MWs yL_puts cL_puts 4 (some .boolean) 3 := ⟨lw_g 544 (by decide +kernel) rfl, lw_g 545 (by decide +kernel) rfl, lw_g 28 (by decide +kernel) rfl, by decide +kernel, by decide⟩
theorem lk_L_15 : LK RL 15 yL_cell := Or.inl (lw_g 520 (by decide +kernel) rfl)
theorem mw_L_cell : MWs yL_cell cL_cell 2 (some .int) 2 := ⟨lw_g 521 (by decide +kernel) rfl, lw_g 522 (by decide +kernel) rfl, lw_g 28 (by decide +kernel) rfl, by decide +kernel, by decide⟩
theorem lk_L_32 : LK RL 32 yL_letter := Or.inl (lw_g 559 (by decide +kernel) rfl)
theorem mw_L_letter : MWs yL_letter cL_letter 1 (some .int) 1 := ⟨lw_g 560 (by decide +kernel) rfl, lw_g 561 (by decide +kernel) rfl, lw_g 28 (by decide +kernel) rfl, by decide +kernel, by decide⟩
theorem lk_L_36 : LK RL 36 yX8_fault := Or.inl (lw_g 562 (by decide +kernel) rfl)
theorem mw_X8_fault : MWi 8 yX8_fault cX8_fault 3 (some .int) 1 := ⟨lw_g 563 (by decide +kernel) rfl, lw_g 564 (by decide +kernel) rfl, lw_g 565 (by decide +kernel) rfl, lw_g 29 (by decide +kernel) rfl, by decide +kernel, by decide, ⟨_, rfl, rfl⟩⟩
theorem lk_L_39 : LK RL 39 yX8_town := Or.inl (lw_g 608 (by decide +kernel) rfl)
theorem mw_X8_town : MWi 8 yX8_town cX8_town 3 (some .int) 1 := ⟨lw_g 609 (by decide +kernel) rfl, lw_g 610 (by decide +kernel) rfl, lw_g 611 (by decide +kernel) rfl, lw_g 29 (by decide +kernel) rfl, by decide +kernel, by decide, ⟨_, rfl, rfl⟩⟩
theorem lk_L_61 : LK RL 61 yX8_night := Or.inl (lw_g 285 (by decide +kernel) rfl)
theorem mw_X8_night : MWi 8 yX8_night cX8_night 1 (some .int) 0 := ⟨lw_g 286 (by decide +kernel) rfl, lw_g 287 (by decide +kernel) rfl, lw_g 288 (by decide +kernel) rfl, lw_g 29 (by decide +kernel) rfl, by decide +kernel, by decide, ⟨_, rfl, rfl⟩⟩
theorem lk_L_64 : LK RL 64 yX8_inspect := Or.inl (lw_g 366 (by decide +kernel) rfl)
theorem mw_X8_inspect : MWi 8 yX8_inspect cX8_inspect 2 (some .int) 1 := ⟨lw_g 367 (by decide +kernel) rfl, lw_g 368 (by decide +kernel) rfl, lw_g 369 (by decide +kernel) rfl, lw_g 29 (by decide +kernel) rfl, by decide +kernel, by decide, ⟨_, rfl, rfl⟩⟩
theorem lk_L_67 : LK RL 67 yX8_thin := Or.inl (lw_g 371 (by decide +kernel) rfl)
theorem mw_X8_thin : MWi 8 yX8_thin cX8_thin 2 (some .int) 1 := ⟨lw_g 372 (by decide +kernel) rfl, lw_g 373 (by decide +kernel) rfl, lw_g 374 (by decide +kernel) rfl, lw_g 29 (by decide +kernel) rfl, by decide +kernel, by decide, ⟨_, rfl, rfl⟩⟩
theorem lk_L_70 : LK RL 70 yX8_swap := Or.inl (lw_g 619 (by decide +kernel) rfl)
theorem mw_X8_swap : MWi 8 yX8_swap cX8_swap 3 (some .int) 2 := ⟨lw_g 620 (by decide +kernel) rfl, lw_g 621 (by decide +kernel) rfl, lw_g 622 (by decide +kernel) rfl, lw_g 29 (by decide +kernel) rfl, by decide +kernel, by decide, ⟨_, rfl, rfl⟩⟩
theorem lk_L_76 : LK RL 76 yX8_lots := Or.inl (lw_g 623 (by decide +kernel) rfl)
theorem mw_X8_lots : MWi 8 yX8_lots cX8_lots 9 (some .int) 2 := ⟨lw_g 624 (by decide +kernel) rfl, lw_g 625 (by decide +kernel) rfl, lw_g 626 (by decide +kernel) rfl, lw_g 29 (by decide +kernel) rfl, by decide +kernel, by decide, ⟨_, rfl, rfl⟩⟩
theorem lk_L_73 : LK RL 73 yX8_undo := Or.inl (lw_g 376 (by decide +kernel) rfl)
theorem mw_X8_undo : MWi 8 yX8_undo cX8_undo 3 (some .int) 1 := ⟨lw_g 377 (by decide +kernel) rfl, lw_g 378 (by decide +kernel) rfl, lw_g 379 (by decide +kernel) rfl, lw_g 29 (by decide +kernel) rfl, by decide +kernel, by decide, ⟨_, rfl, rfl⟩⟩
theorem lk_L_82 : LK RL 82 yX8_on := Or.inl (lw_g 419 (by decide +kernel) rfl)
theorem mw_X8_on : MWi 8 yX8_on cX8_on 4 (some .int) 1 := ⟨lw_g 420 (by decide +kernel) rfl, lw_g 421 (by decide +kernel) rfl, lw_g 422 (by decide +kernel) rfl, lw_g 29 (by decide +kernel) rfl, by decide +kernel, by decide, ⟨_, rfl, rfl⟩⟩
theorem lk_L_79 : LK RL 79 yX8_keep := Or.inl (lw_g 396 (by decide +kernel) rfl)
theorem mw_X8_keep : MWi 8 yX8_keep cX8_keep 2 (some .int) 1 := ⟨lw_g 397 (by decide +kernel) rfl, lw_g 398 (by decide +kernel) rfl, lw_g 399 (by decide +kernel) rfl, lw_g 29 (by decide +kernel) rfl, by decide +kernel, by decide, ⟨_, rfl, rfl⟩⟩
theorem lk_L_85 : LK RL 85 yX8_row := Or.inl (lw_g 632 (by decide +kernel) rfl)
theorem mw_X8_row : MWi 8 yX8_row cX8_row 3 (some .int) 2 := ⟨lw_g 633 (by decide +kernel) rfl, lw_g 634 (by decide +kernel) rfl, lw_g 635 (by decide +kernel) rfl, lw_g 29 (by decide +kernel) rfl, by decide +kernel, by decide, ⟨_, rfl, rfl⟩⟩
theorem lk_L_88 : LK RL 88 yX8_lay := Or.inl (lw_g 636 (by decide +kernel) rfl)
theorem mw_X8_lay : MWi 8 yX8_lay cX8_lay 6 (some .int) 3 := ⟨lw_g 637 (by decide +kernel) rfl, lw_g 638 (by decide +kernel) rfl, lw_g 639 (by decide +kernel) rfl, lw_g 29 (by decide +kernel) rfl, by decide +kernel, by decide, ⟨_, rfl, rfl⟩⟩
theorem lk_L_91 : LK RL 91 yX8_copy := Or.inl (lw_g 644 (by decide +kernel) rfl)
theorem mw_X8_copy : MWi 8 yX8_copy cX8_copy 6 (some .int) 5 := ⟨lw_g 645 (by decide +kernel) rfl, lw_g 646 (by decide +kernel) rfl, lw_g 647 (by decide +kernel) rfl, lw_g 29 (by decide +kernel) rfl, by decide +kernel, by decide, ⟨_, rfl, rfl⟩⟩
theorem lk_L_98 : LK RL 98 yX8_mean := Or.inl (lw_g 663 (by decide +kernel) rfl)
theorem mw_X8_mean : MWi 8 yX8_mean cX8_mean 7 (some .int) 1 := ⟨lw_g 664 (by decide +kernel) rfl, lw_g 665 (by decide +kernel) rfl, lw_g 666 (by decide +kernel) rfl, lw_g 29 (by decide +kernel) rfl, by decide +kernel, by decide, ⟨_, rfl, rfl⟩⟩
theorem lk_L_95 : LK RL 95 yX8_tear := Or.inl (lw_g 655 (by decide +kernel) rfl)
theorem mw_X8_tear : MWi 8 yX8_tear cX8_tear 3 (some .int) 1 := ⟨lw_g 656 (by decide +kernel) rfl, lw_g 657 (by decide +kernel) rfl, lw_g 658 (by decide +kernel) rfl, lw_g 29 (by decide +kernel) rfl, by decide +kernel, by decide, ⟨_, rfl, rfl⟩⟩
theorem lk_L_104 : LK RL 104 yX8_marry := Or.inl (lw_g 693 (by decide +kernel) rfl)
theorem mw_X8_marry : MWi 8 yX8_marry cX8_marry 3 (some .int) 1 := ⟨lw_g 694 (by decide +kernel) rfl, lw_g 695 (by decide +kernel) rfl, lw_g 696 (by decide +kernel) rfl, lw_g 29 (by decide +kernel) rfl, by decide +kernel, by decide, ⟨_, rfl, rfl⟩⟩
theorem lk_L_101 : LK RL 101 yX8_round := Or.inl (lw_g 667 (by decide +kernel) rfl)
theorem mw_X8_round : MWi 8 yX8_round cX8_round 4 (some .int) 2 := ⟨lw_g 668 (by decide +kernel) rfl, lw_g 669 (by decide +kernel) rfl, lw_g 670 (by decide +kernel) rfl, lw_g 29 (by decide +kernel) rfl, by decide +kernel, by decide, ⟨_, rfl, rfl⟩⟩
theorem lk_L_110 : LK RL 110 yX8_brings := Or.inl (lw_g 727 (by decide +kernel) rfl)
theorem mw_X8_brings : MWi 8 yX8_brings cX8_brings 4 (some .int) 1 := ⟨lw_g 728 (by decide +kernel) rfl, lw_g 729 (by decide +kernel) rfl, lw_g 730 (by decide +kernel) rfl, lw_g 29 (by decide +kernel) rfl, by decide +kernel, by decide, ⟨_, rfl, rfl⟩⟩
theorem lk_L_107 : LK RL 107 yX8_mark := Or.inl (lw_g 716 (by decide +kernel) rfl)
theorem mw_X8_mark : MWi 8 yX8_mark cX8_mark 5 (some .int) 2 := ⟨lw_g 717 (by decide +kernel) rfl, lw_g 718 (by decide +kernel) rfl, lw_g 719 (by decide +kernel) rfl, lw_g 29 (by decide +kernel) rfl, by decide +kernel, by decide, ⟨_, rfl, rfl⟩⟩
theorem lk_L_116 : LK RL 116 yX8_test := Or.inl (lw_g 760 (by decide +kernel) rfl)
theorem mw_X8_test : MWi 8 yX8_test cX8_test 5 (some .int) 2 := ⟨lw_g 761 (by decide +kernel) rfl, lw_g 762 (by decide +kernel) rfl, lw_g 763 (by decide +kernel) rfl, lw_g 29 (by decide +kernel) rfl, by decide +kernel, by decide, ⟨_, rfl, rfl⟩⟩
theorem lk_L_113 : LK RL 113 yX8_odds := Or.inl (lw_g 737 (by decide +kernel) rfl)
theorem mw_X8_odds : MWi 8 yX8_odds cX8_odds 7 (some .int) 2 := ⟨lw_g 738 (by decide +kernel) rfl, lw_g 739 (by decide +kernel) rfl, lw_g 740 (by decide +kernel) rfl, lw_g 29 (by decide +kernel) rfl, by decide +kernel, by decide, ⟨_, rfl, rfl⟩⟩
theorem lk_L_119 : LK RL 119 yX8_then := Or.inl (lw_g 796 (by decide +kernel) rfl)
theorem mw_X8_then : MWi 8 yX8_then cX8_then 3 (some .int) 2 := ⟨lw_g 797 (by decide +kernel) rfl, lw_g 798 (by decide +kernel) rfl, lw_g 799 (by decide +kernel) rfl, lw_g 29 (by decide +kernel) rfl, by decide +kernel, by decide, ⟨_, rfl, rfl⟩⟩
theorem lk_L_122 : LK RL 122 yX8_at := Or.inl (lw_g 808 (by decide +kernel) rfl)
theorem mw_X8_at : MWi 8 yX8_at cX8_at 4 (some .int) 2 := ⟨lw_g 809 (by decide +kernel) rfl, lw_g 810 (by decide +kernel) rfl, lw_g 811 (by decide +kernel) rfl, lw_g 29 (by decide +kernel) rfl, by decide +kernel, by decide, ⟨_, rfl, rfl⟩⟩
theorem lk_L_125 : LK RL 125 yX8_bed := Or.inl (lw_g 812 (by decide +kernel) rfl)
theorem mw_X8_bed : MWi 8 yX8_bed cX8_bed 3 (some .int) 2 := ⟨lw_g 813 (by decide +kernel) rfl, lw_g 814 (by decide +kernel) rfl, lw_g 815 (by decide +kernel) rfl, lw_g 29 (by decide +kernel) rfl, by decide +kernel, by decide, ⟨_, rfl, rfl⟩⟩
theorem lk_L_128 : LK RL 128 yX8_cross := Or.inl (lw_g 816 (by decide +kernel) rfl)
theorem mw_X8_cross : MWi 8 yX8_cross cX8_cross 3 (some .int) 2 := ⟨lw_g 817 (by decide +kernel) rfl, lw_g 818 (by decide +kernel) rfl, lw_g 819 (by decide +kernel) rfl, lw_g 29 (by decide +kernel) rfl, by decide +kernel, by decide, ⟨_, rfl, rfl⟩⟩
theorem lk_L_131 : LK RL 131 yX8_when := Or.inl (lw_g 820 (by decide +kernel) rfl)
theorem mw_X8_when : MWi 8 yX8_when cX8_when 3 (some .int) 1 := ⟨lw_g 821 (by decide +kernel) rfl, lw_g 822 (by decide +kernel) rfl, lw_g 823 (by decide +kernel) rfl, lw_g 29 (by decide +kernel) rfl, by decide +kernel, by decide, ⟨_, rfl, rfl⟩⟩
theorem lk_L_134 : LK RL 134 yX8_least := Or.inl (lw_g 825 (by decide +kernel) rfl)
theorem mw_X8_least : MWi 8 yX8_least cX8_least 5 (some .int) 2 := ⟨lw_g 826 (by decide +kernel) rfl, lw_g 827 (by decide +kernel) rfl, lw_g 828 (by decide +kernel) rfl, lw_g 29 (by decide +kernel) rfl, by decide +kernel, by decide, ⟨_, rfl, rfl⟩⟩
theorem lk_L_137 : LK RL 137 yX8_thicks := Or.inl (lw_g 830 (by decide +kernel) rfl)
theorem mw_X8_thicks : MWi 8 yX8_thicks cX8_thicks 4 (some .int) 2 := ⟨lw_g 831 (by decide +kernel) rfl, lw_g 832 (by decide +kernel) rfl, lw_g 833 (by decide +kernel) rfl, lw_g 29 (by decide +kernel) rfl, by decide +kernel, by decide, ⟨_, rfl, rfl⟩⟩
theorem lk_L_140 : LK RL 140 yX8_kinds := Or.inl (lw_g 835 (by decide +kernel) rfl)
theorem mw_X8_kinds : MWi 8 yX8_kinds cX8_kinds 4 (some .int) 2 := ⟨lw_g 836 (by decide +kernel) rfl, lw_g 837 (by decide +kernel) rfl, lw_g 838 (by decide +kernel) rfl, lw_g 29 (by decide +kernel) rfl, by decide +kernel, by decide, ⟨_, rfl, rfl⟩⟩
theorem lk_L_143 : LK RL 143 yX8_duel := Or.inl (lw_g 440 (by decide +kernel) rfl)
theorem mw_X8_duel : MWi 8 yX8_duel cX8_duel 2 (some .int) 1 := ⟨lw_g 441 (by decide +kernel) rfl, lw_g 442 (by decide +kernel) rfl, lw_g 443 (by decide +kernel) rfl, lw_g 29 (by decide +kernel) rfl, by decide +kernel, by decide, ⟨_, rfl, rfl⟩⟩
theorem lk_L_146 : LK RL 146 yX8_mid := Or.inl (lw_g 843 (by decide +kernel) rfl)
theorem mw_X8_mid : MWi 8 yX8_mid cX8_mid 6 (some .int) 1 := ⟨lw_g 844 (by decide +kernel) rfl, lw_g 845 (by decide +kernel) rfl, lw_g 846 (by decide +kernel) rfl, lw_g 29 (by decide +kernel) rfl, by decide +kernel, by decide, ⟨_, rfl, rfl⟩⟩
theorem lk_L_149 : LK RL 149 yX8_count := Or.inl (lw_g 470 (by decide +kernel) rfl)
theorem lk_L_152 : LK RL 152 yX8_findings := Or.inl (lw_g 851 (by decide +kernel) rfl)
theorem mw_X8_findings : MWi 8 yX8_findings cX8_findings 2 (some .int) 1 := ⟨lw_g 852 (by decide +kernel) rfl, lw_g 853 (by decide +kernel) rfl, lw_g 854 (by decide +kernel) rfl, lw_g 29 (by decide +kernel) rfl, by decide +kernel, by decide, ⟨_, rfl, rfl⟩⟩
theorem lk_L_155 : LK RL 155 yX8_digest := Or.inl (lw_g 498 (by decide +kernel) rfl)
theorem mw_X8_digest : MWi 8 yX8_digest cX8_digest 5 (some .long) 0 := ⟨lw_g 499 (by decide +kernel) rfl, lw_g 500 (by decide +kernel) rfl, lw_g 501 (by decide +kernel) rfl, lw_g 29 (by decide +kernel) rfl, by decide +kernel, by decide, ⟨_, rfl, rfl⟩⟩
theorem lk_L_159 : LK RL 159 yX8_upper := Or.inl (lw_g 858 (by decide +kernel) rfl)
theorem mw_X8_upper : MWi 8 yX8_upper cX8_upper 1 (some .long) 0 := ⟨lw_g 859 (by decide +kernel) rfl, lw_g 860 (by decide +kernel) rfl, lw_g 861 (by decide +kernel) rfl, lw_g 29 (by decide +kernel) rfl, by decide +kernel, by decide, ⟨_, rfl, rfl⟩⟩
theorem lk_L_162 : LK RL 162 yX8_lower := Or.inl (lw_g 862 (by decide +kernel) rfl)
theorem mw_X8_lower : MWi 8 yX8_lower cX8_lower 1 (some .long) 0 := ⟨lw_g 863 (by decide +kernel) rfl, lw_g 864 (by decide +kernel) rfl, lw_g 865 (by decide +kernel) rfl, lw_g 29 (by decide +kernel) rfl, by decide +kernel, by decide, ⟨_, rfl, rfl⟩⟩
theorem lk_L_165 : LK RL 165 yX8_asked := Or.inl (lw_g 866 (by decide +kernel) rfl)
theorem mw_X8_asked : MWi 8 yX8_asked cX8_asked 1 (some .int) 0 := ⟨lw_g 867 (by decide +kernel) rfl, lw_g 868 (by decide +kernel) rfl, lw_g 869 (by decide +kernel) rfl, lw_g 29 (by decide +kernel) rfl, by decide +kernel, by decide, ⟨_, rfl, rfl⟩⟩
theorem lk_L_168 : LK RL 168 yX8_finding := Or.inl (lw_g 870 (by decide +kernel) rfl)
theorem mw_X8_finding : MWi 8 yX8_finding cX8_finding 1 (some .int) 0 := ⟨lw_g 871 (by decide +kernel) rfl, lw_g 872 (by decide +kernel) rfl, lw_g 873 (by decide +kernel) rfl, lw_g 29 (by decide +kernel) rfl, by decide +kernel, by decide, ⟨_, rfl, rfl⟩⟩
theorem lk_L_183 : LK RL 183 yL_act := Or.inl (lw_g 616 (by decide +kernel) rfl)
theorem mw_L_act : MWs yL_act cL_act 4 (some .int) 2 := ⟨lw_g 617 (by decide +kernel) rfl, lw_g 618 (by decide +kernel) rfl, lw_g 28 (by decide +kernel) rfl, by decide +kernel, by decide⟩
theorem lk_L_172 : LK RL 172 yL_isLeft := Or.inl (lw_g 805 (by decide +kernel) rfl)
theorem mw_L_isLeft : MWs yL_isLeft cL_isLeft 5 (some .boolean) 2 := ⟨lw_g 806 (by decide +kernel) rfl, lw_g 807 (by decide +kernel) rfl, lw_g 28 (by decide +kernel) rfl, by decide +kernel, by decide⟩
theorem lk_L_176 : LK RL 176 yL_areAlike := Or.inl (lw_g 855 (by decide +kernel) rfl)
theorem mw_L_areAlike : MWs yL_areAlike cL_areAlike 4 (some .boolean) 2 := ⟨lw_g 856 (by decide +kernel) rfl, lw_g 857 (by decide +kernel) rfl, lw_g 28 (by decide +kernel) rfl, by decide +kernel, by decide⟩
theorem lk_L_180 : LK RL 180 yL_town := Or.inl (lw_g 524 (by decide +kernel) rfl)
theorem mw_L_town : MWs yL_town cL_town 9 (some .boolean) 5 := ⟨lw_g 525 (by decide +kernel) rfl, lw_g 526 (by decide +kernel) rfl, lw_g 28 (by decide +kernel) rfl, by decide +kernel, by decide⟩
theorem N_X8_asked {Δ : DD2} {d k : Nat} {σ : Mem2} {q : Int32} (hd : 1 ≤ d) (_ : isK2 8 k = true) (hF : G_X8_asked k σ = some q) : Mt2 Δ d yX8_asked cX8_asked 1 (some .int) [rf2 Δ k] σ (some (.int q)) σ := lift_P (fun Δ σ q h => M_X8_asked hd rfl h) hF
theorem N_X8_at {Δ : DD2} {d k : Nat} {x1 x2 : Int32} {σ : Mem2} {q : Int32 × Mem2} (hd : 5 ≤ d) (_ : isK2 8 k = true) (hF : G_X8_at k x1 x2 σ = some q) : Mt2 Δ d yX8_at cX8_at 4 (some .int) [rf2 Δ k, .int x1, .int x2] σ (some (.int q.1)) q.2 := lift_I (fun Δ σ q h => M_X8_at hd rfl h) hF
theorem N_X8_bed {Δ : DD2} {d k : Nat} {x1 x2 : Int32} {σ : Mem2} {q : Int32 × Mem2} (hd : 5 ≤ d) (_ : isK2 8 k = true) (hF : G_X8_bed k x1 x2 σ = some q) : Mt2 Δ d yX8_bed cX8_bed 3 (some .int) [rf2 Δ k, .int x1, .int x2] σ (some (.int q.1)) q.2 := lift_I (fun Δ σ q h => M_X8_bed hd rfl h) hF
theorem N_X8_brings {Δ : DD2} {d k : Nat} {x1 : Int32} {σ : Mem2} {q : Int32 × Mem2} (hd : 5 ≤ d) (_ : isK2 8 k = true) (hF : G_X8_brings k x1 σ = some q) : Mt2 Δ d yX8_brings cX8_brings 4 (some .int) [rf2 Δ k, .int x1] σ (some (.int q.1)) q.2 := lift_I (fun Δ σ q h => M_X8_brings hd rfl h) hF
theorem N_X8_copy {Δ : DD2} {d k : Nat} {x1 x2 x3 x4 x5 : Int32} {σ : Mem2} {q : Int32 × Mem2} (hd : 3 ≤ d) (_ : isK2 8 k = true) (hF : G_X8_copy k x1 x2 x3 x4 x5 σ = some q) : Mt2 Δ d yX8_copy cX8_copy 6 (some .int) [rf2 Δ k, .int x1, .int x2, .int x3, .int x4, .int x5] σ (some (.int q.1)) q.2 := lift_I (fun Δ σ q h => M_X8_copy hd rfl h) hF
theorem N_X8_count {Δ : DD2} {d k : Nat} {x1 : Int32} {σ : Mem2} {q : Int32} (hd : 4 ≤ d) (_ : isK2 8 k = true) (hF : G_X8_count k x1 σ = some q) : Mt2 Δ d yX8_count cX8_count 2 (some .int) [rf2 Δ k, .int x1] σ (some (.int q)) σ := lift_P (fun Δ σ q h => M_X8_count hd rfl h) hF
theorem N_X8_cross {Δ : DD2} {d k : Nat} {x1 x2 : Int32} {σ : Mem2} {q : Int32} (hd : 4 ≤ d) (_ : isK2 8 k = true) (hF : G_X8_cross k x1 x2 σ = some q) : Mt2 Δ d yX8_cross cX8_cross 3 (some .int) [rf2 Δ k, .int x1, .int x2] σ (some (.int q)) σ := lift_P (fun Δ σ q h => M_X8_cross hd rfl h) hF
theorem N_X8_digest {Δ : DD2} {d k : Nat} {σ : Mem2} {q : Int64} (hd : 5 ≤ d) (_ : isK2 8 k = true) (hF : G_X8_digest k σ = some q) : Mt2 Δ d yX8_digest cX8_digest 5 (some .long) [rf2 Δ k] σ (some (.long q)) σ := lift_L (fun Δ σ q h => M_X8_digest hd rfl h) hF
theorem N_X8_duel {Δ : DD2} {d k : Nat} {x1 : Int32} {σ : Mem2} {q : Int32 × Mem2} (hd : 24 ≤ d) (_ : isK2 8 k = true) (hF : G_X8_duel k x1 σ = some q) : Mt2 Δ d yX8_duel cX8_duel 2 (some .int) [rf2 Δ k, .int x1] σ (some (.int q.1)) q.2 := lift_I (fun Δ σ q h => M_X8_duel hd rfl h) hF
theorem N_X8_fault {Δ : DD2} {d k : Nat} {x1 : Int32} {σ : Mem2} {q : Int32 × Mem2} (hd : 6 ≤ d) (_ : isK2 8 k = true) (hF : G_X8_fault k x1 σ = some q) : Mt2 Δ d yX8_fault cX8_fault 3 (some .int) [rf2 Δ k, .int x1] σ (some (.int q.1)) q.2 := lift_I (fun Δ σ q h => M_X8_fault hd rfl h) hF
theorem N_X8_finding {Δ : DD2} {d k : Nat} {σ : Mem2} {q : Int32} (hd : 1 ≤ d) (_ : isK2 8 k = true) (hF : G_X8_finding k σ = some q) : Mt2 Δ d yX8_finding cX8_finding 1 (some .int) [rf2 Δ k] σ (some (.int q)) σ := lift_P (fun Δ σ q h => M_X8_finding hd rfl h) hF
theorem N_X8_findings {Δ : DD2} {d k : Nat} {x1 : Int32} {σ : Mem2} {q : Int32} (hd : 2 ≤ d) (_ : isK2 8 k = true) (hF : G_X8_findings k x1 σ = some q) : Mt2 Δ d yX8_findings cX8_findings 2 (some .int) [rf2 Δ k, .int x1] σ (some (.int q)) σ := lift_P (fun Δ σ q h => M_X8_findings hd rfl h) hF
theorem N_X8_inspect {Δ : DD2} {d k : Nat} {x1 : Int32} {σ : Mem2} {q : Int32 × Mem2} (hd : 7 ≤ d) (_ : isK2 8 k = true) (hF : G_X8_inspect k x1 σ = some q) : Mt2 Δ d yX8_inspect cX8_inspect 2 (some .int) [rf2 Δ k, .int x1] σ (some (.int q.1)) q.2 := lift_I (fun Δ σ q h => M_X8_inspect hd rfl h) hF
theorem N_X8_keep {Δ : DD2} {d k : Nat} {x1 : Int32} {σ : Mem2} {q : Int32 × Mem2} (hd : 4 ≤ d) (_ : isK2 8 k = true) (hF : G_X8_keep k x1 σ = some q) : Mt2 Δ d yX8_keep cX8_keep 2 (some .int) [rf2 Δ k, .int x1] σ (some (.int q.1)) q.2 := lift_I (fun Δ σ q h => M_X8_keep hd rfl h) hF
theorem N_X8_kinds {Δ : DD2} {d k : Nat} {x1 x2 : Int32} {σ : Mem2} {q : Int32 × Mem2} (hd : 6 ≤ d) (_ : isK2 8 k = true) (hF : G_X8_kinds k x1 x2 σ = some q) : Mt2 Δ d yX8_kinds cX8_kinds 4 (some .int) [rf2 Δ k, .int x1, .int x2] σ (some (.int q.1)) q.2 := lift_I (fun Δ σ q h => M_X8_kinds hd rfl h) hF
theorem N_X8_lay {Δ : DD2} {d k : Nat} {x1 x2 x3 : Int32} {σ : Mem2} {q : Int32 × Mem2} (hd : 5 ≤ d) (_ : isK2 8 k = true) (hF : G_X8_lay k x1 x2 x3 σ = some q) : Mt2 Δ d yX8_lay cX8_lay 6 (some .int) [rf2 Δ k, .int x1, .int x2, .int x3] σ (some (.int q.1)) q.2 := lift_I (fun Δ σ q h => M_X8_lay hd rfl h) hF
theorem N_X8_least {Δ : DD2} {d k : Nat} {x1 x2 : Int32} {σ : Mem2} {q : Int32 × Mem2} (hd : 5 ≤ d) (_ : isK2 8 k = true) (hF : G_X8_least k x1 x2 σ = some q) : Mt2 Δ d yX8_least cX8_least 5 (some .int) [rf2 Δ k, .int x1, .int x2] σ (some (.int q.1)) q.2 := lift_I (fun Δ σ q h => M_X8_least hd rfl h) hF
theorem N_X8_lots {Δ : DD2} {d k : Nat} {x1 x2 : Int32} {σ : Mem2} {q : Int32 × Mem2} (hd : 7 ≤ d) (_ : isK2 8 k = true) (hF : G_X8_lots k x1 x2 σ = some q) : Mt2 Δ d yX8_lots cX8_lots 9 (some .int) [rf2 Δ k, .int x1, .int x2] σ (some (.int q.1)) q.2 := lift_I (fun Δ σ q h => M_X8_lots hd rfl h) hF
theorem N_X8_lower {Δ : DD2} {d k : Nat} {σ : Mem2} {q : Int64} (hd : 1 ≤ d) (_ : isK2 8 k = true) (hF : G_X8_lower k σ = some q) : Mt2 Δ d yX8_lower cX8_lower 1 (some .long) [rf2 Δ k] σ (some (.long q)) σ := lift_L (fun Δ σ q h => M_X8_lower hd rfl h) hF
theorem N_X8_mark {Δ : DD2} {d k : Nat} {x1 x2 : Int32} {σ : Mem2} {q : Int32 × Mem2} (hd : 4 ≤ d) (_ : isK2 8 k = true) (hF : G_X8_mark k x1 x2 σ = some q) : Mt2 Δ d yX8_mark cX8_mark 5 (some .int) [rf2 Δ k, .int x1, .int x2] σ (some (.int q.1)) q.2 := lift_I (fun Δ σ q h => M_X8_mark hd rfl h) hF
theorem N_X8_marry {Δ : DD2} {d k : Nat} {x1 : Int32} {σ : Mem2} {q : Int32 × Mem2} (hd : 24 ≤ d) (_ : isK2 8 k = true) (hF : G_X8_marry k x1 σ = some q) : Mt2 Δ d yX8_marry cX8_marry 3 (some .int) [rf2 Δ k, .int x1] σ (some (.int q.1)) q.2 := lift_I (fun Δ σ q h => M_X8_marry hd rfl h) hF
theorem N_X8_mean {Δ : DD2} {d k : Nat} {x1 : Int32} {σ : Mem2} {q : Int32 × Mem2} (hd : 4 ≤ d) (_ : isK2 8 k = true) (hF : G_X8_mean k x1 σ = some q) : Mt2 Δ d yX8_mean cX8_mean 7 (some .int) [rf2 Δ k, .int x1] σ (some (.int q.1)) q.2 := lift_I (fun Δ σ q h => M_X8_mean hd rfl h) hF
theorem N_X8_mid {Δ : DD2} {d k : Nat} {x1 : Int32} {σ : Mem2} {q : Int32 × Mem2} (hd : 4 ≤ d) (_ : isK2 8 k = true) (hF : G_X8_mid k x1 σ = some q) : Mt2 Δ d yX8_mid cX8_mid 6 (some .int) [rf2 Δ k, .int x1] σ (some (.int q.1)) q.2 := lift_I (fun Δ σ q h => M_X8_mid hd rfl h) hF
theorem N_X8_night {Δ : DD2} {d k : Nat} {σ : Mem2} {q : Int32 × Mem2} (hd : 7 ≤ d) (_ : isK2 8 k = true) (hF : G_X8_night k σ = some q) : Mt2 Δ d yX8_night cX8_night 1 (some .int) [rf2 Δ k] σ (some (.int q.1)) q.2 := lift_I (fun Δ σ q h => M_X8_night hd rfl h) hF
theorem N_X8_odds {Δ : DD2} {d k : Nat} {x1 x2 : Int32} {σ : Mem2} {q : Int32 × Mem2} (hd : 4 ≤ d) (_ : isK2 8 k = true) (hF : G_X8_odds k x1 x2 σ = some q) : Mt2 Δ d yX8_odds cX8_odds 7 (some .int) [rf2 Δ k, .int x1, .int x2] σ (some (.int q.1)) q.2 := lift_I (fun Δ σ q h => M_X8_odds hd rfl h) hF
theorem N_X8_on {Δ : DD2} {d k : Nat} {x1 : Int32} {σ : Mem2} {q : Int32 × Mem2} (hd : 7 ≤ d) (_ : isK2 8 k = true) (hF : G_X8_on k x1 σ = some q) : Mt2 Δ d yX8_on cX8_on 4 (some .int) [rf2 Δ k, .int x1] σ (some (.int q.1)) q.2 := lift_I (fun Δ σ q h => M_X8_on hd rfl h) hF
theorem N_X8_put {Δ : DD2} {d k : Nat} {x1 x2 x3 : Int32} {σ : Mem2} {q : Int32 × Mem2} (hd : 5 ≤ d) (_ : isK2 8 k = true) (hF : G_X8_put k x1 x2 x3 σ = some q) : Mt2 Δ d yX8_put cX8_put 6 (some .int) [rf2 Δ k, .int x1, .int x2, .int x3] σ (some (.int q.1)) q.2 := lift_I (fun Δ σ q h => M_X8_put hd rfl h) hF
theorem N_X8_round {Δ : DD2} {d k : Nat} {x1 x2 : Int32} {σ : Mem2} {q : Int32 × Mem2} (hd : 24 ≤ d) (_ : isK2 8 k = true) (hF : G_X8_round k x1 x2 σ = some q) : Mt2 Δ d yX8_round cX8_round 4 (some .int) [rf2 Δ k, .int x1, .int x2] σ (some (.int q.1)) q.2 := lift_I (fun Δ σ q h => M_X8_round hd rfl h) hF
theorem N_X8_row {Δ : DD2} {d k : Nat} {x1 x2 : Int32} {σ : Mem2} {q : Int32 × Mem2} (hd : 5 ≤ d) (_ : isK2 8 k = true) (hF : G_X8_row k x1 x2 σ = some q) : Mt2 Δ d yX8_row cX8_row 3 (some .int) [rf2 Δ k, .int x1, .int x2] σ (some (.int q.1)) q.2 := lift_I (fun Δ σ q h => M_X8_row hd rfl h) hF
theorem N_X8_swap {Δ : DD2} {d k : Nat} {x1 x2 : Int32} {σ : Mem2} {q : Int32 × Mem2} (hd : 7 ≤ d) (_ : isK2 8 k = true) (hF : G_X8_swap k x1 x2 σ = some q) : Mt2 Δ d yX8_swap cX8_swap 3 (some .int) [rf2 Δ k, .int x1, .int x2] σ (some (.int q.1)) q.2 := lift_I (fun Δ σ q h => M_X8_swap hd rfl h) hF
theorem N_X8_tear {Δ : DD2} {d k : Nat} {x1 : Int32} {σ : Mem2} {q : Int32 × Mem2} (hd : 4 ≤ d) (_ : isK2 8 k = true) (hF : G_X8_tear k x1 σ = some q) : Mt2 Δ d yX8_tear cX8_tear 3 (some .int) [rf2 Δ k, .int x1] σ (some (.int q.1)) q.2 := lift_I (fun Δ σ q h => M_X8_tear hd rfl h) hF
theorem N_X8_test {Δ : DD2} {d k : Nat} {x1 x2 : Int32} {σ : Mem2} {q : Int32 × Mem2} (hd : 7 ≤ d) (_ : isK2 8 k = true) (hF : G_X8_test k x1 x2 σ = some q) : Mt2 Δ d yX8_test cX8_test 5 (some .int) [rf2 Δ k, .int x1, .int x2] σ (some (.int q.1)) q.2 := lift_I (fun Δ σ q h => M_X8_test hd rfl h) hF
theorem N_X8_text {Δ : DD2} {d k : Nat} {x1 x2 : Int32} {σ : Mem2} {q : Int32 × Mem2} (hd : 5 ≤ d) (_ : isK2 8 k = true) (hF : G_X8_text k x1 x2 σ = some q) : Mt2 Δ d yX8_text cX8_text 3 (some .int) [rf2 Δ k, .int x1, .int x2] σ (some (.int q.1)) q.2 := lift_I (fun Δ σ q h => M_X8_text hd rfl h) hF
theorem N_X8_then {Δ : DD2} {d k : Nat} {x1 x2 : Int32} {σ : Mem2} {q : Int32 × Mem2} (hd : 5 ≤ d) (_ : isK2 8 k = true) (hF : G_X8_then k x1 x2 σ = some q) : Mt2 Δ d yX8_then cX8_then 3 (some .int) [rf2 Δ k, .int x1, .int x2] σ (some (.int q.1)) q.2 := lift_I (fun Δ σ q h => M_X8_then hd rfl h) hF
theorem N_X8_thicks {Δ : DD2} {d k : Nat} {x1 x2 : Int32} {σ : Mem2} {q : Int32 × Mem2} (hd : 6 ≤ d) (_ : isK2 8 k = true) (hF : G_X8_thicks k x1 x2 σ = some q) : Mt2 Δ d yX8_thicks cX8_thicks 4 (some .int) [rf2 Δ k, .int x1, .int x2] σ (some (.int q.1)) q.2 := lift_I (fun Δ σ q h => M_X8_thicks hd rfl h) hF
theorem N_X8_thin {Δ : DD2} {d k : Nat} {x1 : Int32} {σ : Mem2} {q : Int32 × Mem2} (hd : 7 ≤ d) (_ : isK2 8 k = true) (hF : G_X8_thin k x1 σ = some q) : Mt2 Δ d yX8_thin cX8_thin 2 (some .int) [rf2 Δ k, .int x1] σ (some (.int q.1)) q.2 := lift_I (fun Δ σ q h => M_X8_thin hd rfl h) hF
theorem N_X8_town {Δ : DD2} {d k : Nat} {x1 : Int32} {σ : Mem2} {q : Int32 × Mem2} (hd : 6 ≤ d) (_ : isK2 8 k = true) (hF : G_X8_town k x1 σ = some q) : Mt2 Δ d yX8_town cX8_town 3 (some .int) [rf2 Δ k, .int x1] σ (some (.int q.1)) q.2 := lift_I (fun Δ σ q h => M_X8_town hd rfl h) hF
theorem N_X8_undo {Δ : DD2} {d k : Nat} {x1 : Int32} {σ : Mem2} {q : Int32 × Mem2} (hd : 7 ≤ d) (_ : isK2 8 k = true) (hF : G_X8_undo k x1 σ = some q) : Mt2 Δ d yX8_undo cX8_undo 3 (some .int) [rf2 Δ k, .int x1] σ (some (.int q.1)) q.2 := lift_I (fun Δ σ q h => M_X8_undo hd rfl h) hF
theorem N_X8_upper {Δ : DD2} {d k : Nat} {σ : Mem2} {q : Int64} (hd : 1 ≤ d) (_ : isK2 8 k = true) (hF : G_X8_upper k σ = some q) : Mt2 Δ d yX8_upper cX8_upper 1 (some .long) [rf2 Δ k] σ (some (.long q)) σ := lift_L (fun Δ σ q h => M_X8_upper hd rfl h) hF
theorem N_X8_when {Δ : DD2} {d k : Nat} {x1 : Int32} {σ : Mem2} {q : Int32 × Mem2} (hd : 5 ≤ d) (_ : isK2 8 k = true) (hF : G_X8_when k x1 σ = some q) : Mt2 Δ d yX8_when cX8_when 3 (some .int) [rf2 Δ k, .int x1] σ (some (.int q.1)) q.2 := lift_I (fun Δ σ q h => M_X8_when hd rfl h) hF
