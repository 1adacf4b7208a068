-- ===== the law's program =====
theorem gw_252 : Cond.methodLink RL 13 yX4_set ∈ gTs := gTs_of 252 (by decide +kernel) (by decide +kernel)
theorem gw_253 : Cond.instanceMethod yX4_set ∈ gTs := gTs_of 253 (by decide +kernel) (by decide +kernel)
theorem gw_254 : Cond.selects RX4 yX4_set yX4_set ∈ gTs := gTs_of 254 (by decide +kernel) (by decide +kernel)
theorem gw_255 : Cond.code yX4_set cX4_set 5 (some .int) ∈ gTs := gTs_of 255 (by decide +kernel) (by decide +kernel)
theorem gw_328 : Cond.methodLink RL 18 yX4_wright ∈ gTs := gTs_of 328 (by decide +kernel) (by decide +kernel)
theorem gw_336 : Cond.methodLink RL 22 yX4_told ∈ gTs := gTs_of 336 (by decide +kernel) (by decide +kernel)
theorem gw_337 : Cond.methodLink RL 27 yX4_asks ∈ gTs := gTs_of 337 (by decide +kernel) (by decide +kernel)
theorem gw_338 : Cond.instanceMethod yX4_asks ∈ gTs := gTs_of 338 (by decide +kernel) (by decide +kernel)
theorem gw_339 : Cond.selects RX4 yX4_asks yX4_asks ∈ gTs := gTs_of 339 (by decide +kernel) (by decide +kernel)
theorem gw_340 : Cond.code yX4_asks cX4_asks 4 (some .int) ∈ gTs := gTs_of 340 (by decide +kernel) (by decide +kernel)
theorem gw_350 : Cond.methodLink RL 31 yX4_feed ∈ gTs := gTs_of 350 (by decide +kernel) (by decide +kernel)
theorem gw_351 : Cond.instanceMethod yX4_feed ∈ gTs := gTs_of 351 (by decide +kernel) (by decide +kernel)
theorem gw_352 : Cond.selects RX4 yX4_feed yX4_feed ∈ gTs := gTs_of 352 (by decide +kernel) (by decide +kernel)
theorem gw_353 : Cond.code yX4_feed cX4_feed 2 (some .int) ∈ gTs := gTs_of 353 (by decide +kernel) (by decide +kernel)
theorem gw_358 : Cond.methodLink RL 36 yX4_text ∈ gTs := gTs_of 358 (by decide +kernel) (by decide +kernel)
theorem gw_359 : Cond.instanceMethod yX4_text ∈ gTs := gTs_of 359 (by decide +kernel) (by decide +kernel)
theorem gw_360 : Cond.selects RX4 yX4_text yX4_text ∈ gTs := gTs_of 360 (by decide +kernel) (by decide +kernel)
theorem gw_361 : Cond.code yX4_text cX4_text 2 (some .int) ∈ gTs := gTs_of 361 (by decide +kernel) (by decide +kernel)
theorem gw_492 : Cond.methodLink RL 41 yX4_force ∈ gTs := gTs_of 492 (by decide +kernel) (by decide +kernel)
theorem gw_493 : Cond.instanceMethod yX4_force ∈ gTs := gTs_of 493 (by decide +kernel) (by decide +kernel)
theorem gw_494 : Cond.selects RX4 yX4_force yX4_force ∈ gTs := gTs_of 494 (by decide +kernel) (by decide +kernel)
theorem gw_495 : Cond.code yX4_force cX4_force 3 (some .int) ∈ gTs := gTs_of 495 (by decide +kernel) (by decide +kernel)
theorem gw_500 : Cond.methodLink RL 45 yX4_builds ∈ gTs := gTs_of 500 (by decide +kernel) (by decide +kernel)
theorem gw_501 : Cond.instanceMethod yX4_builds ∈ gTs := gTs_of 501 (by decide +kernel) (by decide +kernel)
theorem gw_502 : Cond.selects RX4 yX4_builds yX4_builds ∈ gTs := gTs_of 502 (by decide +kernel) (by decide +kernel)
theorem gw_503 : Cond.code yX4_builds cX4_builds 3 (some .int) ∈ gTs := gTs_of 503 (by decide +kernel) (by decide +kernel)
theorem gw_509 : Cond.methodLink RL 49 yX4_bound ∈ gTs := gTs_of 509 (by decide +kernel) (by decide +kernel)
theorem gw_510 : Cond.instanceMethod yX4_bound ∈ gTs := gTs_of 510 (by decide +kernel) (by decide +kernel)
theorem gw_511 : Cond.selects RX4 yX4_bound yX4_bound ∈ gTs := gTs_of 511 (by decide +kernel) (by decide +kernel)
theorem gw_512 : Cond.code yX4_bound cX4_bound 1 (some .int) ∈ gTs := gTs_of 512 (by decide +kernel) (by decide +kernel)
theorem gw_518 : Cond.methodLink RL 53 yX4_home ∈ gTs := gTs_of 518 (by decide +kernel) (by decide +kernel)
theorem gw_519 : Cond.instanceMethod yX4_home ∈ gTs := gTs_of 519 (by decide +kernel) (by decide +kernel)
theorem gw_520 : Cond.selects RX4 yX4_home yX4_home ∈ gTs := gTs_of 520 (by decide +kernel) (by decide +kernel)
theorem gw_521 : Cond.code yX4_home cX4_home 2 (some .int) ∈ gTs := gTs_of 521 (by decide +kernel) (by decide +kernel)
theorem gw_530 : Cond.methodLink RL 57 yX4_day ∈ gTs := gTs_of 530 (by decide +kernel) (by decide +kernel)
theorem gw_531 : Cond.instanceMethod yX4_day ∈ gTs := gTs_of 531 (by decide +kernel) (by decide +kernel)
theorem gw_532 : Cond.selects RX4 yX4_day yX4_day ∈ gTs := gTs_of 532 (by decide +kernel) (by decide +kernel)
theorem gw_533 : Cond.code yX4_day cX4_day 1 (some .int) ∈ gTs := gTs_of 533 (by decide +kernel) (by decide +kernel)
theorem gw_551 : Cond.methodLink RL 61 yX4_run ∈ gTs := gTs_of 551 (by decide +kernel) (by decide +kernel)
theorem gw_552 : Cond.instanceMethod yX4_run ∈ gTs := gTs_of 552 (by decide +kernel) (by decide +kernel)
theorem gw_553 : Cond.selects RX4 yX4_run yX4_run ∈ gTs := gTs_of 553 (by decide +kernel) (by decide +kernel)
theorem gw_554 : Cond.code yX4_run cX4_run 3 (some .int) ∈ gTs := gTs_of 554 (by decide +kernel) (by decide +kernel)
theorem gw_568 : Cond.methodLink RL 65 yX4_down ∈ gTs := gTs_of 568 (by decide +kernel) (by decide +kernel)
theorem gw_569 : Cond.instanceMethod yX4_down ∈ gTs := gTs_of 569 (by decide +kernel) (by decide +kernel)
theorem gw_570 : Cond.selects RX4 yX4_down yX4_down ∈ gTs := gTs_of 570 (by decide +kernel) (by decide +kernel)
theorem gw_571 : Cond.code yX4_down cX4_down 2 (some .int) ∈ gTs := gTs_of 571 (by decide +kernel) (by decide +kernel)
theorem gw_572 : Cond.methodLink RL 69 yX4_yard ∈ gTs := gTs_of 572 (by decide +kernel) (by decide +kernel)
theorem gw_573 : Cond.instanceMethod yX4_yard ∈ gTs := gTs_of 573 (by decide +kernel) (by decide +kernel)
theorem gw_574 : Cond.selects RX4 yX4_yard yX4_yard ∈ gTs := gTs_of 574 (by decide +kernel) (by decide +kernel)
theorem gw_575 : Cond.code yX4_yard cX4_yard 8 (some .int) ∈ gTs := gTs_of 575 (by decide +kernel) (by decide +kernel)
theorem gw_591 : Cond.methodLink RL 73 yX4_stands ∈ gTs := gTs_of 591 (by decide +kernel) (by decide +kernel)
theorem gw_592 : Cond.instanceMethod yX4_stands ∈ gTs := gTs_of 592 (by decide +kernel) (by decide +kernel)
theorem gw_593 : Cond.selects RX4 yX4_stands yX4_stands ∈ gTs := gTs_of 593 (by decide +kernel) (by decide +kernel)
theorem gw_594 : Cond.code yX4_stands cX4_stands 3 (some .int) ∈ gTs := gTs_of 594 (by decide +kernel) (by decide +kernel)
theorem gw_595 : Cond.methodLink RL 77 yX4_go ∈ gTs := gTs_of 595 (by decide +kernel) (by decide +kernel)
theorem gw_596 : Cond.instanceMethod yX4_go ∈ gTs := gTs_of 596 (by decide +kernel) (by decide +kernel)
theorem gw_597 : Cond.selects RX4 yX4_go yX4_go ∈ gTs := gTs_of 597 (by decide +kernel) (by decide +kernel)
theorem gw_598 : Cond.code yX4_go cX4_go 7 (some .int) ∈ gTs := gTs_of 598 (by decide +kernel) (by decide +kernel)
theorem gw_604 : Cond.methodLink RL 81 yX4_worst ∈ gTs := gTs_of 604 (by decide +kernel) (by decide +kernel)
theorem gw_605 : Cond.instanceMethod yX4_worst ∈ gTs := gTs_of 605 (by decide +kernel) (by decide +kernel)
theorem gw_606 : Cond.selects RX4 yX4_worst yX4_worst ∈ gTs := gTs_of 606 (by decide +kernel) (by decide +kernel)
theorem gw_607 : Cond.code yX4_worst cX4_worst 5 (some .int) ∈ gTs := gTs_of 607 (by decide +kernel) (by decide +kernel)
theorem gw_608 : Cond.methodLink RL 85 yX4_mean ∈ gTs := gTs_of 608 (by decide +kernel) (by decide +kernel)
theorem gw_609 : Cond.instanceMethod yX4_mean ∈ gTs := gTs_of 609 (by decide +kernel) (by decide +kernel)
theorem gw_610 : Cond.selects RX4 yX4_mean yX4_mean ∈ gTs := gTs_of 610 (by decide +kernel) (by decide +kernel)
theorem gw_611 : Cond.code yX4_mean cX4_mean 4 (some .long) ∈ gTs := gTs_of 611 (by decide +kernel) (by decide +kernel)
theorem gw_616 : Cond.methodLink RL 90 yX4_tells ∈ gTs := gTs_of 616 (by decide +kernel) (by decide +kernel)
theorem gw_617 : Cond.instanceMethod yX4_tells ∈ gTs := gTs_of 617 (by decide +kernel) (by decide +kernel)
theorem gw_618 : Cond.selects RX4 yX4_tells yX4_tells ∈ gTs := gTs_of 618 (by decide +kernel) (by decide +kernel)
theorem gw_619 : Cond.code yX4_tells cX4_tells 5 (some .int) ∈ gTs := gTs_of 619 (by decide +kernel) (by decide +kernel)
theorem gw_643 : Cond.methodLink RL 94 yX4_film ∈ gTs := gTs_of 643 (by decide +kernel) (by decide +kernel)
theorem gw_644 : Cond.instanceMethod yX4_film ∈ gTs := gTs_of 644 (by decide +kernel) (by decide +kernel)
theorem gw_645 : Cond.selects RX4 yX4_film yX4_film ∈ gTs := gTs_of 645 (by decide +kernel) (by decide +kernel)
theorem gw_646 : Cond.code yX4_film cX4_film 5 (some .int) ∈ gTs := gTs_of 646 (by decide +kernel) (by decide +kernel)
theorem gw_662 : Cond.methodLink RL 98 yX4_drawn ∈ gTs := gTs_of 662 (by decide +kernel) (by decide +kernel)
theorem gw_663 : Cond.instanceMethod yX4_drawn ∈ gTs := gTs_of 663 (by decide +kernel) (by decide +kernel)
theorem gw_664 : Cond.selects RX4 yX4_drawn yX4_drawn ∈ gTs := gTs_of 664 (by decide +kernel) (by decide +kernel)
theorem gw_665 : Cond.code yX4_drawn cX4_drawn 3 (some .int) ∈ gTs := gTs_of 665 (by decide +kernel) (by decide +kernel)
theorem gw_671 : Cond.methodLink RL 102 yX4_chance ∈ gTs := gTs_of 671 (by decide +kernel) (by decide +kernel)
theorem gw_672 : Cond.instanceMethod yX4_chance ∈ gTs := gTs_of 672 (by decide +kernel) (by decide +kernel)
theorem gw_673 : Cond.selects RX4 yX4_chance yX4_chance ∈ gTs := gTs_of 673 (by decide +kernel) (by decide +kernel)
theorem gw_674 : Cond.code yX4_chance cX4_chance 6 (some .long) ∈ gTs := gTs_of 674 (by decide +kernel) (by decide +kernel)
theorem gw_675 : Cond.methodLink RL 107 yX4_image ∈ gTs := gTs_of 675 (by decide +kernel) (by decide +kernel)
theorem gw_676 : Cond.instanceMethod yX4_image ∈ gTs := gTs_of 676 (by decide +kernel) (by decide +kernel)
theorem gw_677 : Cond.selects RX4 yX4_image yX4_image ∈ gTs := gTs_of 677 (by decide +kernel) (by decide +kernel)
theorem gw_678 : Cond.code yX4_image cX4_image 1 (some .int) ∈ gTs := gTs_of 678 (by decide +kernel) (by decide +kernel)
theorem gw_679 : Cond.methodLink RL 111 yX4_back ∈ gTs := gTs_of 679 (by decide +kernel) (by decide +kernel)
theorem gw_680 : Cond.instanceMethod yX4_back ∈ gTs := gTs_of 680 (by decide +kernel) (by decide +kernel)
theorem gw_681 : Cond.selects RX4 yX4_back yX4_back ∈ gTs := gTs_of 681 (by decide +kernel) (by decide +kernel)
theorem gw_682 : Cond.code yX4_back cX4_back 1 (some .int) ∈ gTs := gTs_of 682 (by decide +kernel) (by decide +kernel)
theorem gw_683 : Cond.methodLink RL 115 yX4_count ∈ gTs := gTs_of 683 (by decide +kernel) (by decide +kernel)
theorem gw_684 : Cond.instanceMethod yX4_count ∈ gTs := gTs_of 684 (by decide +kernel) (by decide +kernel)
theorem gw_685 : Cond.selects RX4 yX4_count yX4_count ∈ gTs := gTs_of 685 (by decide +kernel) (by decide +kernel)
theorem gw_686 : Cond.code yX4_count cX4_count 2 (some .int) ∈ gTs := gTs_of 686 (by decide +kernel) (by decide +kernel)
theorem gw_687 : Cond.methodLink RL 119 yX4_sheet ∈ gTs := gTs_of 687 (by decide +kernel) (by decide +kernel)
theorem gw_688 : Cond.instanceMethod yX4_sheet ∈ gTs := gTs_of 688 (by decide +kernel) (by decide +kernel)
theorem gw_689 : Cond.selects RX4 yX4_sheet yX4_sheet ∈ gTs := gTs_of 689 (by decide +kernel) (by decide +kernel)
theorem gw_690 : Cond.code yX4_sheet cX4_sheet 4 (some .int) ∈ gTs := gTs_of 690 (by decide +kernel) (by decide +kernel)
theorem gw_691 : Cond.methodLink RL 123 yX4_cell ∈ gTs := gTs_of 691 (by decide +kernel) (by decide +kernel)
theorem gw_692 : Cond.instanceMethod yX4_cell ∈ gTs := gTs_of 692 (by decide +kernel) (by decide +kernel)
theorem gw_693 : Cond.selects RX4 yX4_cell yX4_cell ∈ gTs := gTs_of 693 (by decide +kernel) (by decide +kernel)
theorem gw_694 : Cond.code yX4_cell cX4_cell 5 (some .int) ∈ gTs := gTs_of 694 (by decide +kernel) (by decide +kernel)
theorem gw_696 : Cond.methodLink RL 127 yX4_copy ∈ gTs := gTs_of 696 (by decide +kernel) (by decide +kernel)
theorem gw_697 : Cond.instanceMethod yX4_copy ∈ gTs := gTs_of 697 (by decide +kernel) (by decide +kernel)
theorem gw_698 : Cond.selects RX4 yX4_copy yX4_copy ∈ gTs := gTs_of 698 (by decide +kernel) (by decide +kernel)
theorem gw_699 : Cond.code yX4_copy cX4_copy 8 (some .int) ∈ gTs := gTs_of 699 (by decide +kernel) (by decide +kernel)
theorem gw_701 : Cond.methodLink RL 132 yX4_gang ∈ gTs := gTs_of 701 (by decide +kernel) (by decide +kernel)
theorem gw_702 : Cond.instanceMethod yX4_gang ∈ gTs := gTs_of 702 (by decide +kernel) (by decide +kernel)
theorem gw_703 : Cond.selects RX4 yX4_gang yX4_gang ∈ gTs := gTs_of 703 (by decide +kernel) (by decide +kernel)
theorem gw_704 : Cond.code yX4_gang cX4_gang 9 (some .int) ∈ gTs := gTs_of 704 (by decide +kernel) (by decide +kernel)
theorem gw_706 : Cond.methodLink RL 137 yX4_taken ∈ gTs := gTs_of 706 (by decide +kernel) (by decide +kernel)
theorem gw_707 : Cond.instanceMethod yX4_taken ∈ gTs := gTs_of 707 (by decide +kernel) (by decide +kernel)
theorem gw_708 : Cond.selects RX4 yX4_taken yX4_taken ∈ gTs := gTs_of 708 (by decide +kernel) (by decide +kernel)
theorem gw_709 : Cond.code yX4_taken cX4_taken 5 (some .int) ∈ gTs := gTs_of 709 (by decide +kernel) (by decide +kernel)
theorem gw_861 : Cond.methodLink RL 17 yX5_set ∈ gTs := gTs_of 861 (by decide +kernel) (by decide +kernel)
theorem gw_862 : Cond.instanceMethod yX5_set ∈ gTs := gTs_of 862 (by decide +kernel) (by decide +kernel)
theorem gw_863 : Cond.selects RX5 yX5_set yX5_set ∈ gTs := gTs_of 863 (by decide +kernel) (by decide +kernel)
theorem gw_864 : Cond.code yX5_set cX5_set 5 (some .int) ∈ gTs := gTs_of 864 (by decide +kernel) (by decide +kernel)
theorem gw_997 : Cond.methodLink RL 21 yX5_wright ∈ gTs := gTs_of 997 (by decide +kernel) (by decide +kernel)
theorem gw_1002 : Cond.methodLink RL 26 yX5_told ∈ gTs := gTs_of 1002 (by decide +kernel) (by decide +kernel)
theorem gw_1003 : Cond.methodLink RL 35 yX5_feed ∈ gTs := gTs_of 1003 (by decide +kernel) (by decide +kernel)
theorem gw_1004 : Cond.instanceMethod yX5_feed ∈ gTs := gTs_of 1004 (by decide +kernel) (by decide +kernel)
theorem gw_1005 : Cond.selects RX5 yX5_feed yX5_feed ∈ gTs := gTs_of 1005 (by decide +kernel) (by decide +kernel)
theorem gw_1006 : Cond.code yX5_feed cX5_feed 2 (some .int) ∈ gTs := gTs_of 1006 (by decide +kernel) (by decide +kernel)
theorem gw_1008 : Cond.methodLink RL 40 yX5_text ∈ gTs := gTs_of 1008 (by decide +kernel) (by decide +kernel)
theorem gw_1009 : Cond.instanceMethod yX5_text ∈ gTs := gTs_of 1009 (by decide +kernel) (by decide +kernel)
theorem gw_1010 : Cond.selects RX5 yX5_text yX5_text ∈ gTs := gTs_of 1010 (by decide +kernel) (by decide +kernel)
theorem gw_1011 : Cond.code yX5_text cX5_text 2 (some .int) ∈ gTs := gTs_of 1011 (by decide +kernel) (by decide +kernel)
theorem gw_1012 : Cond.methodLink RL 44 yX5_force ∈ gTs := gTs_of 1012 (by decide +kernel) (by decide +kernel)
theorem gw_1013 : Cond.instanceMethod yX5_force ∈ gTs := gTs_of 1013 (by decide +kernel) (by decide +kernel)
theorem gw_1014 : Cond.selects RX5 yX5_force yX5_force ∈ gTs := gTs_of 1014 (by decide +kernel) (by decide +kernel)
theorem gw_1015 : Cond.code yX5_force cX5_force 3 (some .int) ∈ gTs := gTs_of 1015 (by decide +kernel) (by decide +kernel)
theorem gw_1016 : Cond.methodLink RL 30 yX5_asks ∈ gTs := gTs_of 1016 (by decide +kernel) (by decide +kernel)
theorem gw_1017 : Cond.instanceMethod yX5_asks ∈ gTs := gTs_of 1017 (by decide +kernel) (by decide +kernel)
theorem gw_1018 : Cond.selects RX5 yX5_asks yX5_asks ∈ gTs := gTs_of 1018 (by decide +kernel) (by decide +kernel)
theorem gw_1019 : Cond.code yX5_asks cX5_asks 4 (some .int) ∈ gTs := gTs_of 1019 (by decide +kernel) (by decide +kernel)
theorem gw_1028 : Cond.methodLink RL 48 yX5_builds ∈ gTs := gTs_of 1028 (by decide +kernel) (by decide +kernel)
theorem gw_1029 : Cond.instanceMethod yX5_builds ∈ gTs := gTs_of 1029 (by decide +kernel) (by decide +kernel)
theorem gw_1030 : Cond.selects RX5 yX5_builds yX5_builds ∈ gTs := gTs_of 1030 (by decide +kernel) (by decide +kernel)
theorem gw_1031 : Cond.code yX5_builds cX5_builds 3 (some .int) ∈ gTs := gTs_of 1031 (by decide +kernel) (by decide +kernel)
theorem gw_1036 : Cond.methodLink RL 52 yX5_bound ∈ gTs := gTs_of 1036 (by decide +kernel) (by decide +kernel)
theorem gw_1037 : Cond.instanceMethod yX5_bound ∈ gTs := gTs_of 1037 (by decide +kernel) (by decide +kernel)
theorem gw_1038 : Cond.selects RX5 yX5_bound yX5_bound ∈ gTs := gTs_of 1038 (by decide +kernel) (by decide +kernel)
theorem gw_1039 : Cond.code yX5_bound cX5_bound 1 (some .int) ∈ gTs := gTs_of 1039 (by decide +kernel) (by decide +kernel)
theorem gw_1044 : Cond.methodLink RL 56 yX5_home ∈ gTs := gTs_of 1044 (by decide +kernel) (by decide +kernel)
theorem gw_1045 : Cond.instanceMethod yX5_home ∈ gTs := gTs_of 1045 (by decide +kernel) (by decide +kernel)
theorem gw_1046 : Cond.selects RX5 yX5_home yX5_home ∈ gTs := gTs_of 1046 (by decide +kernel) (by decide +kernel)
theorem gw_1047 : Cond.code yX5_home cX5_home 3 (some .int) ∈ gTs := gTs_of 1047 (by decide +kernel) (by decide +kernel)
theorem gw_1048 : Cond.methodLink RL 60 yX5_day ∈ gTs := gTs_of 1048 (by decide +kernel) (by decide +kernel)
theorem gw_1049 : Cond.instanceMethod yX5_day ∈ gTs := gTs_of 1049 (by decide +kernel) (by decide +kernel)
theorem gw_1050 : Cond.selects RX5 yX5_day yX5_day ∈ gTs := gTs_of 1050 (by decide +kernel) (by decide +kernel)
theorem gw_1051 : Cond.code yX5_day cX5_day 1 (some .int) ∈ gTs := gTs_of 1051 (by decide +kernel) (by decide +kernel)
theorem gw_1064 : Cond.methodLink RL 64 yX5_run ∈ gTs := gTs_of 1064 (by decide +kernel) (by decide +kernel)
theorem gw_1065 : Cond.instanceMethod yX5_run ∈ gTs := gTs_of 1065 (by decide +kernel) (by decide +kernel)
theorem gw_1066 : Cond.selects RX5 yX5_run yX5_run ∈ gTs := gTs_of 1066 (by decide +kernel) (by decide +kernel)
theorem gw_1067 : Cond.code yX5_run cX5_run 4 (some .int) ∈ gTs := gTs_of 1067 (by decide +kernel) (by decide +kernel)
theorem gw_1083 : Cond.methodLink RL 68 yX5_down ∈ gTs := gTs_of 1083 (by decide +kernel) (by decide +kernel)
theorem gw_1084 : Cond.instanceMethod yX5_down ∈ gTs := gTs_of 1084 (by decide +kernel) (by decide +kernel)
theorem gw_1085 : Cond.selects RX5 yX5_down yX5_down ∈ gTs := gTs_of 1085 (by decide +kernel) (by decide +kernel)
theorem gw_1086 : Cond.code yX5_down cX5_down 2 (some .int) ∈ gTs := gTs_of 1086 (by decide +kernel) (by decide +kernel)
theorem gw_1087 : Cond.methodLink RL 72 yX5_yard ∈ gTs := gTs_of 1087 (by decide +kernel) (by decide +kernel)
theorem gw_1088 : Cond.instanceMethod yX5_yard ∈ gTs := gTs_of 1088 (by decide +kernel) (by decide +kernel)
theorem gw_1089 : Cond.selects RX5 yX5_yard yX5_yard ∈ gTs := gTs_of 1089 (by decide +kernel) (by decide +kernel)
theorem gw_1090 : Cond.code yX5_yard cX5_yard 4 (some .int) ∈ gTs := gTs_of 1090 (by decide +kernel) (by decide +kernel)
theorem gw_1096 : Cond.methodLink RL 76 yX5_stands ∈ gTs := gTs_of 1096 (by decide +kernel) (by decide +kernel)
theorem gw_1097 : Cond.instanceMethod yX5_stands ∈ gTs := gTs_of 1097 (by decide +kernel) (by decide +kernel)
theorem gw_1098 : Cond.selects RX5 yX5_stands yX5_stands ∈ gTs := gTs_of 1098 (by decide +kernel) (by decide +kernel)
theorem gw_1099 : Cond.code yX5_stands cX5_stands 5 (some .int) ∈ gTs := gTs_of 1099 (by decide +kernel) (by decide +kernel)
theorem gw_1104 : Cond.methodLink RL 80 yX5_go ∈ gTs := gTs_of 1104 (by decide +kernel) (by decide +kernel)
theorem gw_1105 : Cond.instanceMethod yX5_go ∈ gTs := gTs_of 1105 (by decide +kernel) (by decide +kernel)
theorem gw_1106 : Cond.selects RX5 yX5_go yX5_go ∈ gTs := gTs_of 1106 (by decide +kernel) (by decide +kernel)
theorem gw_1107 : Cond.code yX5_go cX5_go 4 (some .int) ∈ gTs := gTs_of 1107 (by decide +kernel) (by decide +kernel)
theorem gw_1116 : Cond.methodLink RL 84 yX5_worst ∈ gTs := gTs_of 1116 (by decide +kernel) (by decide +kernel)
theorem gw_1117 : Cond.instanceMethod yX5_worst ∈ gTs := gTs_of 1117 (by decide +kernel) (by decide +kernel)
theorem gw_1118 : Cond.selects RX5 yX5_worst yX5_worst ∈ gTs := gTs_of 1118 (by decide +kernel) (by decide +kernel)
theorem gw_1119 : Cond.code yX5_worst cX5_worst 4 (some .int) ∈ gTs := gTs_of 1119 (by decide +kernel) (by decide +kernel)
theorem gw_1120 : Cond.methodLink RL 89 yX5_mean ∈ gTs := gTs_of 1120 (by decide +kernel) (by decide +kernel)
theorem gw_1121 : Cond.instanceMethod yX5_mean ∈ gTs := gTs_of 1121 (by decide +kernel) (by decide +kernel)
theorem gw_1122 : Cond.selects RX5 yX5_mean yX5_mean ∈ gTs := gTs_of 1122 (by decide +kernel) (by decide +kernel)
theorem gw_1123 : Cond.code yX5_mean cX5_mean 4 (some .long) ∈ gTs := gTs_of 1123 (by decide +kernel) (by decide +kernel)
theorem gw_1128 : Cond.methodLink RL 93 yX5_tells ∈ gTs := gTs_of 1128 (by decide +kernel) (by decide +kernel)
theorem gw_1129 : Cond.instanceMethod yX5_tells ∈ gTs := gTs_of 1129 (by decide +kernel) (by decide +kernel)
theorem gw_1130 : Cond.selects RX5 yX5_tells yX5_tells ∈ gTs := gTs_of 1130 (by decide +kernel) (by decide +kernel)
theorem gw_1131 : Cond.code yX5_tells cX5_tells 11 (some .int) ∈ gTs := gTs_of 1131 (by decide +kernel) (by decide +kernel)
theorem gw_1145 : Cond.methodLink RL 97 yX5_film ∈ gTs := gTs_of 1145 (by decide +kernel) (by decide +kernel)
theorem gw_1146 : Cond.instanceMethod yX5_film ∈ gTs := gTs_of 1146 (by decide +kernel) (by decide +kernel)
theorem gw_1147 : Cond.selects RX5 yX5_film yX5_film ∈ gTs := gTs_of 1147 (by decide +kernel) (by decide +kernel)
theorem gw_1148 : Cond.code yX5_film cX5_film 4 (some .int) ∈ gTs := gTs_of 1148 (by decide +kernel) (by decide +kernel)
theorem gw_1154 : Cond.methodLink RL 101 yX5_drawn ∈ gTs := gTs_of 1154 (by decide +kernel) (by decide +kernel)
theorem gw_1155 : Cond.instanceMethod yX5_drawn ∈ gTs := gTs_of 1155 (by decide +kernel) (by decide +kernel)
theorem gw_1156 : Cond.selects RX5 yX5_drawn yX5_drawn ∈ gTs := gTs_of 1156 (by decide +kernel) (by decide +kernel)
theorem gw_1157 : Cond.code yX5_drawn cX5_drawn 3 (some .int) ∈ gTs := gTs_of 1157 (by decide +kernel) (by decide +kernel)
theorem gw_1163 : Cond.methodLink RL 106 yX5_chance ∈ gTs := gTs_of 1163 (by decide +kernel) (by decide +kernel)
theorem gw_1164 : Cond.instanceMethod yX5_chance ∈ gTs := gTs_of 1164 (by decide +kernel) (by decide +kernel)
theorem gw_1165 : Cond.selects RX5 yX5_chance yX5_chance ∈ gTs := gTs_of 1165 (by decide +kernel) (by decide +kernel)
theorem gw_1166 : Cond.code yX5_chance cX5_chance 7 (some .long) ∈ gTs := gTs_of 1166 (by decide +kernel) (by decide +kernel)
theorem gw_1167 : Cond.methodLink RL 110 yX5_image ∈ gTs := gTs_of 1167 (by decide +kernel) (by decide +kernel)
theorem gw_1168 : Cond.instanceMethod yX5_image ∈ gTs := gTs_of 1168 (by decide +kernel) (by decide +kernel)
theorem gw_1169 : Cond.selects RX5 yX5_image yX5_image ∈ gTs := gTs_of 1169 (by decide +kernel) (by decide +kernel)
theorem gw_1170 : Cond.code yX5_image cX5_image 2 (some .int) ∈ gTs := gTs_of 1170 (by decide +kernel) (by decide +kernel)
theorem gw_1171 : Cond.methodLink RL 114 yX5_back ∈ gTs := gTs_of 1171 (by decide +kernel) (by decide +kernel)
theorem gw_1172 : Cond.instanceMethod yX5_back ∈ gTs := gTs_of 1172 (by decide +kernel) (by decide +kernel)
theorem gw_1173 : Cond.selects RX5 yX5_back yX5_back ∈ gTs := gTs_of 1173 (by decide +kernel) (by decide +kernel)
theorem gw_1174 : Cond.code yX5_back cX5_back 2 (some .int) ∈ gTs := gTs_of 1174 (by decide +kernel) (by decide +kernel)
theorem gw_1175 : Cond.methodLink RL 118 yX5_count ∈ gTs := gTs_of 1175 (by decide +kernel) (by decide +kernel)
theorem gw_1176 : Cond.instanceMethod yX5_count ∈ gTs := gTs_of 1176 (by decide +kernel) (by decide +kernel)
theorem gw_1177 : Cond.selects RX5 yX5_count yX5_count ∈ gTs := gTs_of 1177 (by decide +kernel) (by decide +kernel)
theorem gw_1178 : Cond.code yX5_count cX5_count 2 (some .int) ∈ gTs := gTs_of 1178 (by decide +kernel) (by decide +kernel)
theorem gw_1183 : Cond.methodLink RL 122 yX5_sheet ∈ gTs := gTs_of 1183 (by decide +kernel) (by decide +kernel)
theorem gw_1184 : Cond.methodLink RL 126 yX5_cell ∈ gTs := gTs_of 1184 (by decide +kernel) (by decide +kernel)
theorem gw_1185 : Cond.instanceMethod yX5_cell ∈ gTs := gTs_of 1185 (by decide +kernel) (by decide +kernel)
theorem gw_1186 : Cond.selects RX5 yX5_cell yX5_cell ∈ gTs := gTs_of 1186 (by decide +kernel) (by decide +kernel)
theorem gw_1187 : Cond.code yX5_cell cX5_cell 4 (some .int) ∈ gTs := gTs_of 1187 (by decide +kernel) (by decide +kernel)
theorem gw_1188 : Cond.methodLink RL 131 yX5_copy ∈ gTs := gTs_of 1188 (by decide +kernel) (by decide +kernel)
theorem gw_1189 : Cond.instanceMethod yX5_copy ∈ gTs := gTs_of 1189 (by decide +kernel) (by decide +kernel)
theorem gw_1190 : Cond.selects RX5 yX5_copy yX5_copy ∈ gTs := gTs_of 1190 (by decide +kernel) (by decide +kernel)
theorem gw_1191 : Cond.code yX5_copy cX5_copy 9 (some .int) ∈ gTs := gTs_of 1191 (by decide +kernel) (by decide +kernel)
theorem gw_1192 : Cond.methodLink RL 136 yX5_gang ∈ gTs := gTs_of 1192 (by decide +kernel) (by decide +kernel)
theorem gw_1193 : Cond.instanceMethod yX5_gang ∈ gTs := gTs_of 1193 (by decide +kernel) (by decide +kernel)
theorem gw_1194 : Cond.selects RX5 yX5_gang yX5_gang ∈ gTs := gTs_of 1194 (by decide +kernel) (by decide +kernel)
theorem gw_1195 : Cond.code yX5_gang cX5_gang 8 (some .int) ∈ gTs := gTs_of 1195 (by decide +kernel) (by decide +kernel)
theorem gw_1197 : Cond.methodLink RL 140 yX5_taken ∈ gTs := gTs_of 1197 (by decide +kernel) (by decide +kernel)
theorem gw_1198 : Cond.instanceMethod yX5_taken ∈ gTs := gTs_of 1198 (by decide +kernel) (by decide +kernel)
theorem gw_1199 : Cond.selects RX5 yX5_taken yX5_taken ∈ gTs := gTs_of 1199 (by decide +kernel) (by decide +kernel)
theorem gw_1200 : Cond.code yX5_taken cX5_taken 4 (some .int) ∈ gTs := gTs_of 1200 (by decide +kernel) (by decide +kernel)
def pL_H : List (Nat × XOp) := [(16, xo_ic 0 17), (17, xo_is 3 18), (18, xo_il 3 19), (19, xo_al 0 20), (20, xo_alen 21), (21, xo_ic 6 23), (23, xo_isub 24), (24, xo_ic_gt 1076 27), (27, xo_al 0 28), (28, xo_il 3 29), (29, xo_iald 30), (30, xo_ic 31 32), (32, xo_iand 33), (33, xo_sw [(0, 168), (1, 211), (2, 254), (3, 287), (4, 330), (5, 353), (6, 366), (7, 389), (8, 422), (9, 435), (10, 448), (11, 461), (12, 494), (13, 507), (14, 540), (15, 563), (16, 596), (17, 609), (18, 633), (19, 676), (20, 709), (21, 742), (22, 786), (23, 799), (24, 812), (25, 835), (26, 878), (27, 921), (28, 984), (29, 1037)] 1070)]
theorem sL_H : XPr RL cL_law 4 (some .boolean) 112 pL_H :=
  XPr.cons (xs_iconst dL_law_16 (by decide +kernel)) <|
  XPr.cons (xs_istore_n dL_law_17 rfl (Nat.le_of_ble_eq_true rfl)) <|
  XPr.cons (xs_iload_n dL_law_18 rfl) <|
  XPr.cons (xs_aload_n dL_law_19 rfl) <|
  XPr.cons (xs_alen dL_law_20) <|
  XPr.cons (xs_bipush dL_law_21 (by decide +kernel)) <|
  XPr.cons (xs_isub dL_law_23) <|
  XPr.cons (xs_ic_gt dL_law_24 (by decide +kernel)) <|
  XPr.cons (xs_aload_n dL_law_27 rfl) <|
  XPr.cons (xs_iload_n dL_law_28 rfl) <|
  XPr.cons (xs_iald dL_law_29) <|
  XPr.cons (xs_bipush dL_law_30 (by decide +kernel)) <|
  XPr.cons (xs_iand dL_law_32) <|
  XPr.cons (xs_table (ts := [168, 211, 254, 287, 330, 353, 366, 389, 422, 435, 448, 461, 494, 507, 540, 563, 596, 609, 633, 676, 709, 742, 786, 799, 812, 835, 878, 921, 984, 1037]) dL_law_33 (by decide +kernel) (by decide +kernel) (by decide +kernel) (by decide +kernel)) <|
  XPr.nil
def pL_0 : List (Nat × XOp) := [(168, xo_al 1 169), (169, xo_al 0 170), (170, xo_il 3 171), (171, xo_ic 1 172), (172, xo_iadd 173), (173, xo_iald 174), (174, xo_al 0 175), (175, xo_il 3 176), (176, xo_ic 2 177), (177, xo_iadd 178), (178, xo_iald 179), (179, xo_al 0 180), (180, xo_il 3 181), (181, xo_ic 3 182), (182, xo_iadd 183), (183, xo_iald 184), (184, xo_callV yX4_set cX4_set 5 (some .int) 3 4 187), (187, xo_al 2 188), (188, xo_al 0 189), (189, xo_il 3 190), (190, xo_ic 1 191), (191, xo_iadd 192), (192, xo_iald 193), (193, xo_al 0 194), (194, xo_il 3 195), (195, xo_ic 2 196), (196, xo_iadd 197), (197, xo_iald 198), (198, xo_al 0 199), (199, xo_il 3 200), (200, xo_ic 3 201), (201, xo_iadd 202), (202, xo_iald 203), (203, xo_callV yX5_set cX5_set 5 (some .int) 3 5 206), (206, xo_ic_eq 1070 209), (209, xo_ic 0 210), (210, xo_zret)]
theorem sL_0 : XPr RL cL_law 4 (some .boolean) 112 pL_0 :=
  XPr.cons (xs_aload_n dL_law_168 rfl) <|
  XPr.cons (xs_aload_n dL_law_169 rfl) <|
  XPr.cons (xs_iload_n dL_law_170 rfl) <|
  XPr.cons (xs_iconst dL_law_171 (by decide +kernel)) <|
  XPr.cons (xs_iadd dL_law_172) <|
  XPr.cons (xs_iald dL_law_173) <|
  XPr.cons (xs_aload_n dL_law_174 rfl) <|
  XPr.cons (xs_iload_n dL_law_175 rfl) <|
  XPr.cons (xs_iconst dL_law_176 (by decide +kernel)) <|
  XPr.cons (xs_iadd dL_law_177) <|
  XPr.cons (xs_iald dL_law_178) <|
  XPr.cons (xs_aload_n dL_law_179 rfl) <|
  XPr.cons (xs_iload_n dL_law_180 rfl) <|
  XPr.cons (xs_iconst dL_law_181 (by decide +kernel)) <|
  XPr.cons (xs_iadd dL_law_182) <|
  XPr.cons (xs_iald dL_law_183) <|
  XPr.cons (xs_callV (T := TX4) rfl gw_252 gw_253 gw_254 gw_72 gw_255 (by decide +kernel) (Nat.le_of_ble_eq_true rfl) dL_law_184) <|
  XPr.cons (xs_aload_n dL_law_187 rfl) <|
  XPr.cons (xs_aload_n dL_law_188 rfl) <|
  XPr.cons (xs_iload_n dL_law_189 rfl) <|
  XPr.cons (xs_iconst dL_law_190 (by decide +kernel)) <|
  XPr.cons (xs_iadd dL_law_191) <|
  XPr.cons (xs_iald dL_law_192) <|
  XPr.cons (xs_aload_n dL_law_193 rfl) <|
  XPr.cons (xs_iload_n dL_law_194 rfl) <|
  XPr.cons (xs_iconst dL_law_195 (by decide +kernel)) <|
  XPr.cons (xs_iadd dL_law_196) <|
  XPr.cons (xs_iald dL_law_197) <|
  XPr.cons (xs_aload_n dL_law_198 rfl) <|
  XPr.cons (xs_iload_n dL_law_199 rfl) <|
  XPr.cons (xs_iconst dL_law_200 (by decide +kernel)) <|
  XPr.cons (xs_iadd dL_law_201) <|
  XPr.cons (xs_iald dL_law_202) <|
  XPr.cons (xs_callV (T := TX5) rfl gw_861 gw_862 gw_863 gw_77 gw_864 (by decide +kernel) (Nat.le_of_ble_eq_true rfl) dL_law_203) <|
  XPr.cons (xs_ic_eq dL_law_206 (by decide +kernel)) <|
  XPr.cons (xs_iconst dL_law_209 (by decide +kernel)) <|
  XPr.cons (xs_zret rfl dL_law_210) <|
  XPr.nil
def pL_1 : List (Nat × XOp) := [(211, xo_al 1 212), (212, xo_al 0 213), (213, xo_il 3 214), (214, xo_ic 1 215), (215, xo_iadd 216), (216, xo_iald 217), (217, xo_al 0 218), (218, xo_il 3 219), (219, xo_ic 2 220), (220, xo_iadd 221), (221, xo_iald 222), (222, xo_al 0 223), (223, xo_il 3 224), (224, xo_ic 3 225), (225, xo_iadd 226), (226, xo_iald 227), (227, xo_callV yX4_wright cX4_wright 4 (some .int) 3 4 230), (230, xo_al 2 231), (231, xo_al 0 232), (232, xo_il 3 233), (233, xo_ic 1 234), (234, xo_iadd 235), (235, xo_iald 236), (236, xo_al 0 237), (237, xo_il 3 238), (238, xo_ic 2 239), (239, xo_iadd 240), (240, xo_iald 241), (241, xo_al 0 242), (242, xo_il 3 243), (243, xo_ic 3 244), (244, xo_iadd 245), (245, xo_iald 246), (246, xo_callV yX5_wright cX5_wright 4 (some .int) 3 5 249), (249, xo_ic_eq 1070 252), (252, xo_ic 0 253), (253, xo_zret)]
theorem sL_1 : XPr RL cL_law 4 (some .boolean) 112 pL_1 :=
  XPr.cons (xs_aload_n dL_law_211 rfl) <|
  XPr.cons (xs_aload_n dL_law_212 rfl) <|
  XPr.cons (xs_iload_n dL_law_213 rfl) <|
  XPr.cons (xs_iconst dL_law_214 (by decide +kernel)) <|
  XPr.cons (xs_iadd dL_law_215) <|
  XPr.cons (xs_iald dL_law_216) <|
  XPr.cons (xs_aload_n dL_law_217 rfl) <|
  XPr.cons (xs_iload_n dL_law_218 rfl) <|
  XPr.cons (xs_iconst dL_law_219 (by decide +kernel)) <|
  XPr.cons (xs_iadd dL_law_220) <|
  XPr.cons (xs_iald dL_law_221) <|
  XPr.cons (xs_aload_n dL_law_222 rfl) <|
  XPr.cons (xs_iload_n dL_law_223 rfl) <|
  XPr.cons (xs_iconst dL_law_224 (by decide +kernel)) <|
  XPr.cons (xs_iadd dL_law_225) <|
  XPr.cons (xs_iald dL_law_226) <|
  XPr.cons (xs_callV (T := TX4) rfl gw_328 gw_329 gw_330 gw_72 gw_331 (by decide +kernel) (Nat.le_of_ble_eq_true rfl) dL_law_227) <|
  XPr.cons (xs_aload_n dL_law_230 rfl) <|
  XPr.cons (xs_aload_n dL_law_231 rfl) <|
  XPr.cons (xs_iload_n dL_law_232 rfl) <|
  XPr.cons (xs_iconst dL_law_233 (by decide +kernel)) <|
  XPr.cons (xs_iadd dL_law_234) <|
  XPr.cons (xs_iald dL_law_235) <|
  XPr.cons (xs_aload_n dL_law_236 rfl) <|
  XPr.cons (xs_iload_n dL_law_237 rfl) <|
  XPr.cons (xs_iconst dL_law_238 (by decide +kernel)) <|
  XPr.cons (xs_iadd dL_law_239) <|
  XPr.cons (xs_iald dL_law_240) <|
  XPr.cons (xs_aload_n dL_law_241 rfl) <|
  XPr.cons (xs_iload_n dL_law_242 rfl) <|
  XPr.cons (xs_iconst dL_law_243 (by decide +kernel)) <|
  XPr.cons (xs_iadd dL_law_244) <|
  XPr.cons (xs_iald dL_law_245) <|
  XPr.cons (xs_callV (T := TX5) rfl gw_997 gw_998 gw_999 gw_77 gw_1000 (by decide +kernel) (Nat.le_of_ble_eq_true rfl) dL_law_246) <|
  XPr.cons (xs_ic_eq dL_law_249 (by decide +kernel)) <|
  XPr.cons (xs_iconst dL_law_252 (by decide +kernel)) <|
  XPr.cons (xs_zret rfl dL_law_253) <|
  XPr.nil
def pL_2 : List (Nat × XOp) := [(254, xo_al 1 255), (255, xo_al 0 256), (256, xo_il 3 257), (257, xo_ic 1 258), (258, xo_iadd 259), (259, xo_iald 260), (260, xo_al 0 261), (261, xo_il 3 262), (262, xo_ic 2 263), (263, xo_iadd 264), (264, xo_iald 265), (265, xo_callV yX4_told cX4_told 3 (some .int) 2 4 268), (268, xo_al 2 269), (269, xo_al 0 270), (270, xo_il 3 271), (271, xo_ic 1 272), (272, xo_iadd 273), (273, xo_iald 274), (274, xo_al 0 275), (275, xo_il 3 276), (276, xo_ic 2 277), (277, xo_iadd 278), (278, xo_iald 279), (279, xo_callV yX5_told cX5_told 3 (some .int) 2 5 282), (282, xo_ic_eq 1070 285), (285, xo_ic 0 286), (286, xo_zret)]
theorem sL_2 : XPr RL cL_law 4 (some .boolean) 112 pL_2 :=
  XPr.cons (xs_aload_n dL_law_254 rfl) <|
  XPr.cons (xs_aload_n dL_law_255 rfl) <|
  XPr.cons (xs_iload_n dL_law_256 rfl) <|
  XPr.cons (xs_iconst dL_law_257 (by decide +kernel)) <|
  XPr.cons (xs_iadd dL_law_258) <|
  XPr.cons (xs_iald dL_law_259) <|
  XPr.cons (xs_aload_n dL_law_260 rfl) <|
  XPr.cons (xs_iload_n dL_law_261 rfl) <|
  XPr.cons (xs_iconst dL_law_262 (by decide +kernel)) <|
  XPr.cons (xs_iadd dL_law_263) <|
  XPr.cons (xs_iald dL_law_264) <|
  XPr.cons (xs_callV (T := TX4) rfl gw_336 gw_262 gw_263 gw_72 gw_264 (by decide +kernel) (Nat.le_of_ble_eq_true rfl) dL_law_265) <|
  XPr.cons (xs_aload_n dL_law_268 rfl) <|
  XPr.cons (xs_aload_n dL_law_269 rfl) <|
  XPr.cons (xs_iload_n dL_law_270 rfl) <|
  XPr.cons (xs_iconst dL_law_271 (by decide +kernel)) <|
  XPr.cons (xs_iadd dL_law_272) <|
  XPr.cons (xs_iald dL_law_273) <|
  XPr.cons (xs_aload_n dL_law_274 rfl) <|
  XPr.cons (xs_iload_n dL_law_275 rfl) <|
  XPr.cons (xs_iconst dL_law_276 (by decide +kernel)) <|
  XPr.cons (xs_iadd dL_law_277) <|
  XPr.cons (xs_iald dL_law_278) <|
  XPr.cons (xs_callV (T := TX5) rfl gw_1002 gw_885 gw_886 gw_77 gw_887 (by decide +kernel) (Nat.le_of_ble_eq_true rfl) dL_law_279) <|
  XPr.cons (xs_ic_eq dL_law_282 (by decide +kernel)) <|
  XPr.cons (xs_iconst dL_law_285 (by decide +kernel)) <|
  XPr.cons (xs_zret rfl dL_law_286) <|
  XPr.nil
def pL_3 : List (Nat × XOp) := [(287, xo_al 1 288), (288, xo_al 0 289), (289, xo_il 3 290), (290, xo_ic 1 291), (291, xo_iadd 292), (292, xo_iald 293), (293, xo_al 0 294), (294, xo_il 3 295), (295, xo_ic 2 296), (296, xo_iadd 297), (297, xo_iald 298), (298, xo_al 0 299), (299, xo_il 3 300), (300, xo_ic 3 301), (301, xo_iadd 302), (302, xo_iald 303), (303, xo_callV yX4_asks cX4_asks 4 (some .int) 3 4 306), (306, xo_al 2 307), (307, xo_al 0 308), (308, xo_il 3 309), (309, xo_ic 1 310), (310, xo_iadd 311), (311, xo_iald 312), (312, xo_al 0 313), (313, xo_il 3 314), (314, xo_ic 2 315), (315, xo_iadd 316), (316, xo_iald 317), (317, xo_al 0 318), (318, xo_il 3 319), (319, xo_ic 3 320), (320, xo_iadd 321), (321, xo_iald 322), (322, xo_callV yX5_asks cX5_asks 4 (some .int) 3 5 325), (325, xo_ic_eq 1070 328), (328, xo_ic 0 329), (329, xo_zret)]
theorem sL_3 : XPr RL cL_law 4 (some .boolean) 112 pL_3 :=
  XPr.cons (xs_aload_n dL_law_287 rfl) <|
  XPr.cons (xs_aload_n dL_law_288 rfl) <|
  XPr.cons (xs_iload_n dL_law_289 rfl) <|
  XPr.cons (xs_iconst dL_law_290 (by decide +kernel)) <|
  XPr.cons (xs_iadd dL_law_291) <|
  XPr.cons (xs_iald dL_law_292) <|
  XPr.cons (xs_aload_n dL_law_293 rfl) <|
  XPr.cons (xs_iload_n dL_law_294 rfl) <|
  XPr.cons (xs_iconst dL_law_295 (by decide +kernel)) <|
  XPr.cons (xs_iadd dL_law_296) <|
  XPr.cons (xs_iald dL_law_297) <|
  XPr.cons (xs_aload_n dL_law_298 rfl) <|
  XPr.cons (xs_iload_n dL_law_299 rfl) <|
  XPr.cons (xs_iconst dL_law_300 (by decide +kernel)) <|
  XPr.cons (xs_iadd dL_law_301) <|
  XPr.cons (xs_iald dL_law_302) <|
  XPr.cons (xs_callV (T := TX4) rfl gw_337 gw_338 gw_339 gw_72 gw_340 (by decide +kernel) (Nat.le_of_ble_eq_true rfl) dL_law_303) <|
  XPr.cons (xs_aload_n dL_law_306 rfl) <|
  XPr.cons (xs_aload_n dL_law_307 rfl) <|
  XPr.cons (xs_iload_n dL_law_308 rfl) <|
  XPr.cons (xs_iconst dL_law_309 (by decide +kernel)) <|
  XPr.cons (xs_iadd dL_law_310) <|
  XPr.cons (xs_iald dL_law_311) <|
  XPr.cons (xs_aload_n dL_law_312 rfl) <|
  XPr.cons (xs_iload_n dL_law_313 rfl) <|
  XPr.cons (xs_iconst dL_law_314 (by decide +kernel)) <|
  XPr.cons (xs_iadd dL_law_315) <|
  XPr.cons (xs_iald dL_law_316) <|
  XPr.cons (xs_aload_n dL_law_317 rfl) <|
  XPr.cons (xs_iload_n dL_law_318 rfl) <|
  XPr.cons (xs_iconst dL_law_319 (by decide +kernel)) <|
  XPr.cons (xs_iadd dL_law_320) <|
  XPr.cons (xs_iald dL_law_321) <|
  XPr.cons (xs_callV (T := TX5) rfl gw_1016 gw_1017 gw_1018 gw_77 gw_1019 (by decide +kernel) (Nat.le_of_ble_eq_true rfl) dL_law_322) <|
  XPr.cons (xs_ic_eq dL_law_325 (by decide +kernel)) <|
  XPr.cons (xs_iconst dL_law_328 (by decide +kernel)) <|
  XPr.cons (xs_zret rfl dL_law_329) <|
  XPr.nil
def pL_4 : List (Nat × XOp) := [(330, xo_al 1 331), (331, xo_al 0 332), (332, xo_il 3 333), (333, xo_ic 1 334), (334, xo_iadd 335), (335, xo_iald 336), (336, xo_callV yX4_feed cX4_feed 2 (some .int) 1 4 339), (339, xo_al 2 340), (340, xo_al 0 341), (341, xo_il 3 342), (342, xo_ic 1 343), (343, xo_iadd 344), (344, xo_iald 345), (345, xo_callV yX5_feed cX5_feed 2 (some .int) 1 5 348), (348, xo_ic_eq 1070 351), (351, xo_ic 0 352), (352, xo_zret)]
theorem sL_4 : XPr RL cL_law 4 (some .boolean) 112 pL_4 :=
  XPr.cons (xs_aload_n dL_law_330 rfl) <|
  XPr.cons (xs_aload_n dL_law_331 rfl) <|
  XPr.cons (xs_iload_n dL_law_332 rfl) <|
  XPr.cons (xs_iconst dL_law_333 (by decide +kernel)) <|
  XPr.cons (xs_iadd dL_law_334) <|
  XPr.cons (xs_iald dL_law_335) <|
  XPr.cons (xs_callV (T := TX4) rfl gw_350 gw_351 gw_352 gw_72 gw_353 (by decide +kernel) (Nat.le_of_ble_eq_true rfl) dL_law_336) <|
  XPr.cons (xs_aload_n dL_law_339 rfl) <|
  XPr.cons (xs_aload_n dL_law_340 rfl) <|
  XPr.cons (xs_iload_n dL_law_341 rfl) <|
  XPr.cons (xs_iconst dL_law_342 (by decide +kernel)) <|
  XPr.cons (xs_iadd dL_law_343) <|
  XPr.cons (xs_iald dL_law_344) <|
  XPr.cons (xs_callV (T := TX5) rfl gw_1003 gw_1004 gw_1005 gw_77 gw_1006 (by decide +kernel) (Nat.le_of_ble_eq_true rfl) dL_law_345) <|
  XPr.cons (xs_ic_eq dL_law_348 (by decide +kernel)) <|
  XPr.cons (xs_iconst dL_law_351 (by decide +kernel)) <|
  XPr.cons (xs_zret rfl dL_law_352) <|
  XPr.nil
def pL_5 : List (Nat × XOp) := [(353, xo_al 1 354), (354, xo_callV yX4_text cX4_text 2 (some .int) 0 4 357), (357, xo_al 2 358), (358, xo_callV yX5_text cX5_text 2 (some .int) 0 5 361), (361, xo_ic_eq 1070 364), (364, xo_ic 0 365), (365, xo_zret)]
theorem sL_5 : XPr RL cL_law 4 (some .boolean) 112 pL_5 :=
  XPr.cons (xs_aload_n dL_law_353 rfl) <|
  XPr.cons (xs_callV (T := TX4) rfl gw_358 gw_359 gw_360 gw_72 gw_361 (by decide +kernel) (Nat.le_of_ble_eq_true rfl) dL_law_354) <|
  XPr.cons (xs_aload_n dL_law_357 rfl) <|
  XPr.cons (xs_callV (T := TX5) rfl gw_1008 gw_1009 gw_1010 gw_77 gw_1011 (by decide +kernel) (Nat.le_of_ble_eq_true rfl) dL_law_358) <|
  XPr.cons (xs_ic_eq dL_law_361 (by decide +kernel)) <|
  XPr.cons (xs_iconst dL_law_364 (by decide +kernel)) <|
  XPr.cons (xs_zret rfl dL_law_365) <|
  XPr.nil
def pL_6 : List (Nat × XOp) := [(366, xo_al 1 367), (367, xo_al 0 368), (368, xo_il 3 369), (369, xo_ic 1 370), (370, xo_iadd 371), (371, xo_iald 372), (372, xo_callV yX4_force cX4_force 3 (some .int) 1 4 375), (375, xo_al 2 376), (376, xo_al 0 377), (377, xo_il 3 378), (378, xo_ic 1 379), (379, xo_iadd 380), (380, xo_iald 381), (381, xo_callV yX5_force cX5_force 3 (some .int) 1 5 384), (384, xo_ic_eq 1070 387), (387, xo_ic 0 388), (388, xo_zret)]
theorem sL_6 : XPr RL cL_law 4 (some .boolean) 112 pL_6 :=
  XPr.cons (xs_aload_n dL_law_366 rfl) <|
  XPr.cons (xs_aload_n dL_law_367 rfl) <|
  XPr.cons (xs_iload_n dL_law_368 rfl) <|
  XPr.cons (xs_iconst dL_law_369 (by decide +kernel)) <|
  XPr.cons (xs_iadd dL_law_370) <|
  XPr.cons (xs_iald dL_law_371) <|
  XPr.cons (xs_callV (T := TX4) rfl gw_492 gw_493 gw_494 gw_72 gw_495 (by decide +kernel) (Nat.le_of_ble_eq_true rfl) dL_law_372) <|
  XPr.cons (xs_aload_n dL_law_375 rfl) <|
  XPr.cons (xs_aload_n dL_law_376 rfl) <|
  XPr.cons (xs_iload_n dL_law_377 rfl) <|
  XPr.cons (xs_iconst dL_law_378 (by decide +kernel)) <|
  XPr.cons (xs_iadd dL_law_379) <|
  XPr.cons (xs_iald dL_law_380) <|
  XPr.cons (xs_callV (T := TX5) rfl gw_1012 gw_1013 gw_1014 gw_77 gw_1015 (by decide +kernel) (Nat.le_of_ble_eq_true rfl) dL_law_381) <|
  XPr.cons (xs_ic_eq dL_law_384 (by decide +kernel)) <|
  XPr.cons (xs_iconst dL_law_387 (by decide +kernel)) <|
  XPr.cons (xs_zret rfl dL_law_388) <|
  XPr.nil
def pL_7 : List (Nat × XOp) := [(389, xo_al 1 390), (390, xo_al 0 391), (391, xo_il 3 392), (392, xo_ic 1 393), (393, xo_iadd 394), (394, xo_iald 395), (395, xo_al 0 396), (396, xo_il 3 397), (397, xo_ic 2 398), (398, xo_iadd 399), (399, xo_iald 400), (400, xo_callV yX4_builds cX4_builds 3 (some .int) 2 4 403), (403, xo_al 2 404), (404, xo_al 0 405), (405, xo_il 3 406), (406, xo_ic 1 407), (407, xo_iadd 408), (408, xo_iald 409), (409, xo_al 0 410), (410, xo_il 3 411), (411, xo_ic 2 412), (412, xo_iadd 413), (413, xo_iald 414), (414, xo_callV yX5_builds cX5_builds 3 (some .int) 2 5 417), (417, xo_ic_eq 1070 420), (420, xo_ic 0 421), (421, xo_zret)]
theorem sL_7 : XPr RL cL_law 4 (some .boolean) 112 pL_7 :=
  XPr.cons (xs_aload_n dL_law_389 rfl) <|
  XPr.cons (xs_aload_n dL_law_390 rfl) <|
  XPr.cons (xs_iload_n dL_law_391 rfl) <|
  XPr.cons (xs_iconst dL_law_392 (by decide +kernel)) <|
  XPr.cons (xs_iadd dL_law_393) <|
  XPr.cons (xs_iald dL_law_394) <|
  XPr.cons (xs_aload_n dL_law_395 rfl) <|
  XPr.cons (xs_iload_n dL_law_396 rfl) <|
  XPr.cons (xs_iconst dL_law_397 (by decide +kernel)) <|
  XPr.cons (xs_iadd dL_law_398) <|
  XPr.cons (xs_iald dL_law_399) <|
  XPr.cons (xs_callV (T := TX4) rfl gw_500 gw_501 gw_502 gw_72 gw_503 (by decide +kernel) (Nat.le_of_ble_eq_true rfl) dL_law_400) <|
  XPr.cons (xs_aload_n dL_law_403 rfl) <|
  XPr.cons (xs_aload_n dL_law_404 rfl) <|
  XPr.cons (xs_iload_n dL_law_405 rfl) <|
  XPr.cons (xs_iconst dL_law_406 (by decide +kernel)) <|
  XPr.cons (xs_iadd dL_law_407) <|
  XPr.cons (xs_iald dL_law_408) <|
  XPr.cons (xs_aload_n dL_law_409 rfl) <|
  XPr.cons (xs_iload_n dL_law_410 rfl) <|
  XPr.cons (xs_iconst dL_law_411 (by decide +kernel)) <|
  XPr.cons (xs_iadd dL_law_412) <|
  XPr.cons (xs_iald dL_law_413) <|
  XPr.cons (xs_callV (T := TX5) rfl gw_1028 gw_1029 gw_1030 gw_77 gw_1031 (by decide +kernel) (Nat.le_of_ble_eq_true rfl) dL_law_414) <|
  XPr.cons (xs_ic_eq dL_law_417 (by decide +kernel)) <|
  XPr.cons (xs_iconst dL_law_420 (by decide +kernel)) <|
  XPr.cons (xs_zret rfl dL_law_421) <|
  XPr.nil
def pL_8 : List (Nat × XOp) := [(422, xo_al 1 423), (423, xo_callV yX4_bound cX4_bound 1 (some .int) 0 4 426), (426, xo_al 2 427), (427, xo_callV yX5_bound cX5_bound 1 (some .int) 0 5 430), (430, xo_ic_eq 1070 433), (433, xo_ic 0 434), (434, xo_zret)]
theorem sL_8 : XPr RL cL_law 4 (some .boolean) 112 pL_8 :=
  XPr.cons (xs_aload_n dL_law_422 rfl) <|
  XPr.cons (xs_callV (T := TX4) rfl gw_509 gw_510 gw_511 gw_72 gw_512 (by decide +kernel) (Nat.le_of_ble_eq_true rfl) dL_law_423) <|
  XPr.cons (xs_aload_n dL_law_426 rfl) <|
  XPr.cons (xs_callV (T := TX5) rfl gw_1036 gw_1037 gw_1038 gw_77 gw_1039 (by decide +kernel) (Nat.le_of_ble_eq_true rfl) dL_law_427) <|
  XPr.cons (xs_ic_eq dL_law_430 (by decide +kernel)) <|
  XPr.cons (xs_iconst dL_law_433 (by decide +kernel)) <|
  XPr.cons (xs_zret rfl dL_law_434) <|
  XPr.nil
def pL_9 : List (Nat × XOp) := [(435, xo_al 1 436), (436, xo_callV yX4_home cX4_home 2 (some .int) 0 4 439), (439, xo_al 2 440), (440, xo_callV yX5_home cX5_home 3 (some .int) 0 5 443), (443, xo_ic_eq 1070 446), (446, xo_ic 0 447), (447, xo_zret)]
theorem sL_9 : XPr RL cL_law 4 (some .boolean) 112 pL_9 :=
  XPr.cons (xs_aload_n dL_law_435 rfl) <|
  XPr.cons (xs_callV (T := TX4) rfl gw_518 gw_519 gw_520 gw_72 gw_521 (by decide +kernel) (Nat.le_of_ble_eq_true rfl) dL_law_436) <|
  XPr.cons (xs_aload_n dL_law_439 rfl) <|
  XPr.cons (xs_callV (T := TX5) rfl gw_1044 gw_1045 gw_1046 gw_77 gw_1047 (by decide +kernel) (Nat.le_of_ble_eq_true rfl) dL_law_440) <|
  XPr.cons (xs_ic_eq dL_law_443 (by decide +kernel)) <|
  XPr.cons (xs_iconst dL_law_446 (by decide +kernel)) <|
  XPr.cons (xs_zret rfl dL_law_447) <|
  XPr.nil
def pL_10 : List (Nat × XOp) := [(448, xo_al 1 449), (449, xo_callV yX4_day cX4_day 1 (some .int) 0 4 452), (452, xo_al 2 453), (453, xo_callV yX5_day cX5_day 1 (some .int) 0 5 456), (456, xo_ic_eq 1070 459), (459, xo_ic 0 460), (460, xo_zret)]
theorem sL_10 : XPr RL cL_law 4 (some .boolean) 112 pL_10 :=
  XPr.cons (xs_aload_n dL_law_448 rfl) <|
  XPr.cons (xs_callV (T := TX4) rfl gw_530 gw_531 gw_532 gw_72 gw_533 (by decide +kernel) (Nat.le_of_ble_eq_true rfl) dL_law_449) <|
  XPr.cons (xs_aload_n dL_law_452 rfl) <|
  XPr.cons (xs_callV (T := TX5) rfl gw_1048 gw_1049 gw_1050 gw_77 gw_1051 (by decide +kernel) (Nat.le_of_ble_eq_true rfl) dL_law_453) <|
  XPr.cons (xs_ic_eq dL_law_456 (by decide +kernel)) <|
  XPr.cons (xs_iconst dL_law_459 (by decide +kernel)) <|
  XPr.cons (xs_zret rfl dL_law_460) <|
  XPr.nil
def pL_11 : List (Nat × XOp) := [(461, xo_al 1 462), (462, xo_al 0 463), (463, xo_il 3 464), (464, xo_ic 1 465), (465, xo_iadd 466), (466, xo_iald 467), (467, xo_al 0 468), (468, xo_il 3 469), (469, xo_ic 2 470), (470, xo_iadd 471), (471, xo_iald 472), (472, xo_callV yX4_run cX4_run 3 (some .int) 2 4 475), (475, xo_al 2 476), (476, xo_al 0 477), (477, xo_il 3 478), (478, xo_ic 1 479), (479, xo_iadd 480), (480, xo_iald 481), (481, xo_al 0 482), (482, xo_il 3 483), (483, xo_ic 2 484), (484, xo_iadd 485), (485, xo_iald 486), (486, xo_callV yX5_run cX5_run 4 (some .int) 2 5 489), (489, xo_ic_eq 1070 492), (492, xo_ic 0 493), (493, xo_zret)]
theorem sL_11 : XPr RL cL_law 4 (some .boolean) 112 pL_11 :=
  XPr.cons (xs_aload_n dL_law_461 rfl) <|
  XPr.cons (xs_aload_n dL_law_462 rfl) <|
  XPr.cons (xs_iload_n dL_law_463 rfl) <|
  XPr.cons (xs_iconst dL_law_464 (by decide +kernel)) <|
  XPr.cons (xs_iadd dL_law_465) <|
  XPr.cons (xs_iald dL_law_466) <|
  XPr.cons (xs_aload_n dL_law_467 rfl) <|
  XPr.cons (xs_iload_n dL_law_468 rfl) <|
  XPr.cons (xs_iconst dL_law_469 (by decide +kernel)) <|
  XPr.cons (xs_iadd dL_law_470) <|
  XPr.cons (xs_iald dL_law_471) <|
  XPr.cons (xs_callV (T := TX4) rfl gw_551 gw_552 gw_553 gw_72 gw_554 (by decide +kernel) (Nat.le_of_ble_eq_true rfl) dL_law_472) <|
  XPr.cons (xs_aload_n dL_law_475 rfl) <|
  XPr.cons (xs_aload_n dL_law_476 rfl) <|
  XPr.cons (xs_iload_n dL_law_477 rfl) <|
  XPr.cons (xs_iconst dL_law_478 (by decide +kernel)) <|
  XPr.cons (xs_iadd dL_law_479) <|
  XPr.cons (xs_iald dL_law_480) <|
  XPr.cons (xs_aload_n dL_law_481 rfl) <|
  XPr.cons (xs_iload_n dL_law_482 rfl) <|
  XPr.cons (xs_iconst dL_law_483 (by decide +kernel)) <|
  XPr.cons (xs_iadd dL_law_484) <|
  XPr.cons (xs_iald dL_law_485) <|
  XPr.cons (xs_callV (T := TX5) rfl gw_1064 gw_1065 gw_1066 gw_77 gw_1067 (by decide +kernel) (Nat.le_of_ble_eq_true rfl) dL_law_486) <|
  XPr.cons (xs_ic_eq dL_law_489 (by decide +kernel)) <|
  XPr.cons (xs_iconst dL_law_492 (by decide +kernel)) <|
  XPr.cons (xs_zret rfl dL_law_493) <|
  XPr.nil
def pL_12 : List (Nat × XOp) := [(494, xo_al 1 495), (495, xo_callV yX4_down cX4_down 2 (some .int) 0 4 498), (498, xo_al 2 499), (499, xo_callV yX5_down cX5_down 2 (some .int) 0 5 502), (502, xo_ic_eq 1070 505), (505, xo_ic 0 506), (506, xo_zret)]
theorem sL_12 : XPr RL cL_law 4 (some .boolean) 112 pL_12 :=
  XPr.cons (xs_aload_n dL_law_494 rfl) <|
  XPr.cons (xs_callV (T := TX4) rfl gw_568 gw_569 gw_570 gw_72 gw_571 (by decide +kernel) (Nat.le_of_ble_eq_true rfl) dL_law_495) <|
  XPr.cons (xs_aload_n dL_law_498 rfl) <|
  XPr.cons (xs_callV (T := TX5) rfl gw_1083 gw_1084 gw_1085 gw_77 gw_1086 (by decide +kernel) (Nat.le_of_ble_eq_true rfl) dL_law_499) <|
  XPr.cons (xs_ic_eq dL_law_502 (by decide +kernel)) <|
  XPr.cons (xs_iconst dL_law_505 (by decide +kernel)) <|
  XPr.cons (xs_zret rfl dL_law_506) <|
  XPr.nil
def pL_13 : List (Nat × XOp) := [(507, xo_al 1 508), (508, xo_al 0 509), (509, xo_il 3 510), (510, xo_ic 1 511), (511, xo_iadd 512), (512, xo_iald 513), (513, xo_al 0 514), (514, xo_il 3 515), (515, xo_ic 2 516), (516, xo_iadd 517), (517, xo_iald 518), (518, xo_callV yX4_yard cX4_yard 8 (some .int) 2 4 521), (521, xo_al 2 522), (522, xo_al 0 523), (523, xo_il 3 524), (524, xo_ic 1 525), (525, xo_iadd 526), (526, xo_iald 527), (527, xo_al 0 528), (528, xo_il 3 529), (529, xo_ic 2 530), (530, xo_iadd 531), (531, xo_iald 532), (532, xo_callV yX5_yard cX5_yard 4 (some .int) 2 5 535), (535, xo_ic_eq 1070 538), (538, xo_ic 0 539), (539, xo_zret)]
theorem sL_13 : XPr RL cL_law 4 (some .boolean) 112 pL_13 :=
  XPr.cons (xs_aload_n dL_law_507 rfl) <|
  XPr.cons (xs_aload_n dL_law_508 rfl) <|
  XPr.cons (xs_iload_n dL_law_509 rfl) <|
  XPr.cons (xs_iconst dL_law_510 (by decide +kernel)) <|
  XPr.cons (xs_iadd dL_law_511) <|
  XPr.cons (xs_iald dL_law_512) <|
  XPr.cons (xs_aload_n dL_law_513 rfl) <|
  XPr.cons (xs_iload_n dL_law_514 rfl) <|
  XPr.cons (xs_iconst dL_law_515 (by decide +kernel)) <|
  XPr.cons (xs_iadd dL_law_516) <|
  XPr.cons (xs_iald dL_law_517) <|
  XPr.cons (xs_callV (T := TX4) rfl gw_572 gw_573 gw_574 gw_72 gw_575 (by decide +kernel) (Nat.le_of_ble_eq_true rfl) dL_law_518) <|
  XPr.cons (xs_aload_n dL_law_521 rfl) <|
  XPr.cons (xs_aload_n dL_law_522 rfl) <|
  XPr.cons (xs_iload_n dL_law_523 rfl) <|
  XPr.cons (xs_iconst dL_law_524 (by decide +kernel)) <|
  XPr.cons (xs_iadd dL_law_525) <|
  XPr.cons (xs_iald dL_law_526) <|
  XPr.cons (xs_aload_n dL_law_527 rfl) <|
  XPr.cons (xs_iload_n dL_law_528 rfl) <|
  XPr.cons (xs_iconst dL_law_529 (by decide +kernel)) <|
  XPr.cons (xs_iadd dL_law_530) <|
  XPr.cons (xs_iald dL_law_531) <|
  XPr.cons (xs_callV (T := TX5) rfl gw_1087 gw_1088 gw_1089 gw_77 gw_1090 (by decide +kernel) (Nat.le_of_ble_eq_true rfl) dL_law_532) <|
  XPr.cons (xs_ic_eq dL_law_535 (by decide +kernel)) <|
  XPr.cons (xs_iconst dL_law_538 (by decide +kernel)) <|
  XPr.cons (xs_zret rfl dL_law_539) <|
  XPr.nil
def pL_14 : List (Nat × XOp) := [(540, xo_al 1 541), (541, xo_al 0 542), (542, xo_il 3 543), (543, xo_ic 1 544), (544, xo_iadd 545), (545, xo_iald 546), (546, xo_callV yX4_stands cX4_stands 3 (some .int) 1 4 549), (549, xo_al 2 550), (550, xo_al 0 551), (551, xo_il 3 552), (552, xo_ic 1 553), (553, xo_iadd 554), (554, xo_iald 555), (555, xo_callV yX5_stands cX5_stands 5 (some .int) 1 5 558), (558, xo_ic_eq 1070 561), (561, xo_ic 0 562), (562, xo_zret)]
theorem sL_14 : XPr RL cL_law 4 (some .boolean) 112 pL_14 :=
  XPr.cons (xs_aload_n dL_law_540 rfl) <|
  XPr.cons (xs_aload_n dL_law_541 rfl) <|
  XPr.cons (xs_iload_n dL_law_542 rfl) <|
  XPr.cons (xs_iconst dL_law_543 (by decide +kernel)) <|
  XPr.cons (xs_iadd dL_law_544) <|
  XPr.cons (xs_iald dL_law_545) <|
  XPr.cons (xs_callV (T := TX4) rfl gw_591 gw_592 gw_593 gw_72 gw_594 (by decide +kernel) (Nat.le_of_ble_eq_true rfl) dL_law_546) <|
  XPr.cons (xs_aload_n dL_law_549 rfl) <|
  XPr.cons (xs_aload_n dL_law_550 rfl) <|
  XPr.cons (xs_iload_n dL_law_551 rfl) <|
  XPr.cons (xs_iconst dL_law_552 (by decide +kernel)) <|
  XPr.cons (xs_iadd dL_law_553) <|
  XPr.cons (xs_iald dL_law_554) <|
  XPr.cons (xs_callV (T := TX5) rfl gw_1096 gw_1097 gw_1098 gw_77 gw_1099 (by decide +kernel) (Nat.le_of_ble_eq_true rfl) dL_law_555) <|
  XPr.cons (xs_ic_eq dL_law_558 (by decide +kernel)) <|
  XPr.cons (xs_iconst dL_law_561 (by decide +kernel)) <|
  XPr.cons (xs_zret rfl dL_law_562) <|
  XPr.nil
def pL_15 : List (Nat × XOp) := [(563, xo_al 1 564), (564, xo_al 0 565), (565, xo_il 3 566), (566, xo_ic 1 567), (567, xo_iadd 568), (568, xo_iald 569), (569, xo_al 0 570), (570, xo_il 3 571), (571, xo_ic 2 572), (572, xo_iadd 573), (573, xo_iald 574), (574, xo_callV yX4_go cX4_go 7 (some .int) 2 4 577), (577, xo_al 2 578), (578, xo_al 0 579), (579, xo_il 3 580), (580, xo_ic 1 581), (581, xo_iadd 582), (582, xo_iald 583), (583, xo_al 0 584), (584, xo_il 3 585), (585, xo_ic 2 586), (586, xo_iadd 587), (587, xo_iald 588), (588, xo_callV yX5_go cX5_go 4 (some .int) 2 5 591), (591, xo_ic_eq 1070 594), (594, xo_ic 0 595), (595, xo_zret)]
theorem sL_15 : XPr RL cL_law 4 (some .boolean) 112 pL_15 :=
  XPr.cons (xs_aload_n dL_law_563 rfl) <|
  XPr.cons (xs_aload_n dL_law_564 rfl) <|
  XPr.cons (xs_iload_n dL_law_565 rfl) <|
  XPr.cons (xs_iconst dL_law_566 (by decide +kernel)) <|
  XPr.cons (xs_iadd dL_law_567) <|
  XPr.cons (xs_iald dL_law_568) <|
  XPr.cons (xs_aload_n dL_law_569 rfl) <|
  XPr.cons (xs_iload_n dL_law_570 rfl) <|
  XPr.cons (xs_iconst dL_law_571 (by decide +kernel)) <|
  XPr.cons (xs_iadd dL_law_572) <|
  XPr.cons (xs_iald dL_law_573) <|
  XPr.cons (xs_callV (T := TX4) rfl gw_595 gw_596 gw_597 gw_72 gw_598 (by decide +kernel) (Nat.le_of_ble_eq_true rfl) dL_law_574) <|
  XPr.cons (xs_aload_n dL_law_577 rfl) <|
  XPr.cons (xs_aload_n dL_law_578 rfl) <|
  XPr.cons (xs_iload_n dL_law_579 rfl) <|
  XPr.cons (xs_iconst dL_law_580 (by decide +kernel)) <|
  XPr.cons (xs_iadd dL_law_581) <|
  XPr.cons (xs_iald dL_law_582) <|
  XPr.cons (xs_aload_n dL_law_583 rfl) <|
  XPr.cons (xs_iload_n dL_law_584 rfl) <|
  XPr.cons (xs_iconst dL_law_585 (by decide +kernel)) <|
  XPr.cons (xs_iadd dL_law_586) <|
  XPr.cons (xs_iald dL_law_587) <|
  XPr.cons (xs_callV (T := TX5) rfl gw_1104 gw_1105 gw_1106 gw_77 gw_1107 (by decide +kernel) (Nat.le_of_ble_eq_true rfl) dL_law_588) <|
  XPr.cons (xs_ic_eq dL_law_591 (by decide +kernel)) <|
  XPr.cons (xs_iconst dL_law_594 (by decide +kernel)) <|
  XPr.cons (xs_zret rfl dL_law_595) <|
  XPr.nil
def pL_16 : List (Nat × XOp) := [(596, xo_al 1 597), (597, xo_callV yX4_worst cX4_worst 5 (some .int) 0 4 600), (600, xo_al 2 601), (601, xo_callV yX5_worst cX5_worst 4 (some .int) 0 5 604), (604, xo_ic_eq 1070 607), (607, xo_ic 0 608), (608, xo_zret)]
theorem sL_16 : XPr RL cL_law 4 (some .boolean) 112 pL_16 :=
  XPr.cons (xs_aload_n dL_law_596 rfl) <|
  XPr.cons (xs_callV (T := TX4) rfl gw_604 gw_605 gw_606 gw_72 gw_607 (by decide +kernel) (Nat.le_of_ble_eq_true rfl) dL_law_597) <|
  XPr.cons (xs_aload_n dL_law_600 rfl) <|
  XPr.cons (xs_callV (T := TX5) rfl gw_1116 gw_1117 gw_1118 gw_77 gw_1119 (by decide +kernel) (Nat.le_of_ble_eq_true rfl) dL_law_601) <|
  XPr.cons (xs_ic_eq dL_law_604 (by decide +kernel)) <|
  XPr.cons (xs_iconst dL_law_607 (by decide +kernel)) <|
  XPr.cons (xs_zret rfl dL_law_608) <|
  XPr.nil
def pL_17 : List (Nat × XOp) := [(609, xo_al 1 610), (610, xo_al 0 611), (611, xo_il 3 612), (612, xo_ic 1 613), (613, xo_iadd 614), (614, xo_iald 615), (615, xo_callV yX4_mean cX4_mean 4 (some .long) 1 4 618), (618, xo_al 2 619), (619, xo_al 0 620), (620, xo_il 3 621), (621, xo_ic 1 622), (622, xo_iadd 623), (623, xo_iald 624), (624, xo_callV yX5_mean cX5_mean 4 (some .long) 1 5 627), (627, xo_lcmp 628), (628, xo_if_eq 1070 631), (631, xo_ic 0 632), (632, xo_zret)]
theorem sL_17 : XPr RL cL_law 4 (some .boolean) 112 pL_17 :=
  XPr.cons (xs_aload_n dL_law_609 rfl) <|
  XPr.cons (xs_aload_n dL_law_610 rfl) <|
  XPr.cons (xs_iload_n dL_law_611 rfl) <|
  XPr.cons (xs_iconst dL_law_612 (by decide +kernel)) <|
  XPr.cons (xs_iadd dL_law_613) <|
  XPr.cons (xs_iald dL_law_614) <|
  XPr.cons (xs_callV (T := TX4) rfl gw_608 gw_609 gw_610 gw_72 gw_611 (by decide +kernel) (Nat.le_of_ble_eq_true rfl) dL_law_615) <|
  XPr.cons (xs_aload_n dL_law_618 rfl) <|
  XPr.cons (xs_aload_n dL_law_619 rfl) <|
  XPr.cons (xs_iload_n dL_law_620 rfl) <|
  XPr.cons (xs_iconst dL_law_621 (by decide +kernel)) <|
  XPr.cons (xs_iadd dL_law_622) <|
  XPr.cons (xs_iald dL_law_623) <|
  XPr.cons (xs_callV (T := TX5) rfl gw_1120 gw_1121 gw_1122 gw_77 gw_1123 (by decide +kernel) (Nat.le_of_ble_eq_true rfl) dL_law_624) <|
  XPr.cons (xs_lcmp dL_law_627) <|
  XPr.cons (xs_if_eq dL_law_628 (by decide +kernel)) <|
  XPr.cons (xs_iconst dL_law_631 (by decide +kernel)) <|
  XPr.cons (xs_zret rfl dL_law_632) <|
  XPr.nil
def pL_18 : List (Nat × XOp) := [(633, xo_al 1 634), (634, xo_al 0 635), (635, xo_il 3 636), (636, xo_ic 1 637), (637, xo_iadd 638), (638, xo_iald 639), (639, xo_al 0 640), (640, xo_il 3 641), (641, xo_ic 2 642), (642, xo_iadd 643), (643, xo_iald 644), (644, xo_al 0 645), (645, xo_il 3 646), (646, xo_ic 3 647), (647, xo_iadd 648), (648, xo_iald 649), (649, xo_callV yX4_tells cX4_tells 5 (some .int) 3 4 652), (652, xo_al 2 653), (653, xo_al 0 654), (654, xo_il 3 655), (655, xo_ic 1 656), (656, xo_iadd 657), (657, xo_iald 658), (658, xo_al 0 659), (659, xo_il 3 660), (660, xo_ic 2 661), (661, xo_iadd 662), (662, xo_iald 663), (663, xo_al 0 664), (664, xo_il 3 665), (665, xo_ic 3 666), (666, xo_iadd 667), (667, xo_iald 668), (668, xo_callV yX5_tells cX5_tells 11 (some .int) 3 5 671), (671, xo_ic_eq 1070 674), (674, xo_ic 0 675), (675, xo_zret)]
theorem sL_18 : XPr RL cL_law 4 (some .boolean) 112 pL_18 :=
  XPr.cons (xs_aload_n dL_law_633 rfl) <|
  XPr.cons (xs_aload_n dL_law_634 rfl) <|
  XPr.cons (xs_iload_n dL_law_635 rfl) <|
  XPr.cons (xs_iconst dL_law_636 (by decide +kernel)) <|
  XPr.cons (xs_iadd dL_law_637) <|
  XPr.cons (xs_iald dL_law_638) <|
  XPr.cons (xs_aload_n dL_law_639 rfl) <|
  XPr.cons (xs_iload_n dL_law_640 rfl) <|
  XPr.cons (xs_iconst dL_law_641 (by decide +kernel)) <|
  XPr.cons (xs_iadd dL_law_642) <|
  XPr.cons (xs_iald dL_law_643) <|
  XPr.cons (xs_aload_n dL_law_644 rfl) <|
  XPr.cons (xs_iload_n dL_law_645 rfl) <|
  XPr.cons (xs_iconst dL_law_646 (by decide +kernel)) <|
  XPr.cons (xs_iadd dL_law_647) <|
  XPr.cons (xs_iald dL_law_648) <|
  XPr.cons (xs_callV (T := TX4) rfl gw_616 gw_617 gw_618 gw_72 gw_619 (by decide +kernel) (Nat.le_of_ble_eq_true rfl) dL_law_649) <|
  XPr.cons (xs_aload_n dL_law_652 rfl) <|
  XPr.cons (xs_aload_n dL_law_653 rfl) <|
  XPr.cons (xs_iload_n dL_law_654 rfl) <|
  XPr.cons (xs_iconst dL_law_655 (by decide +kernel)) <|
  XPr.cons (xs_iadd dL_law_656) <|
  XPr.cons (xs_iald dL_law_657) <|
  XPr.cons (xs_aload_n dL_law_658 rfl) <|
  XPr.cons (xs_iload_n dL_law_659 rfl) <|
  XPr.cons (xs_iconst dL_law_660 (by decide +kernel)) <|
  XPr.cons (xs_iadd dL_law_661) <|
  XPr.cons (xs_iald dL_law_662) <|
  XPr.cons (xs_aload_n dL_law_663 rfl) <|
  XPr.cons (xs_iload_n dL_law_664 rfl) <|
  XPr.cons (xs_iconst dL_law_665 (by decide +kernel)) <|
  XPr.cons (xs_iadd dL_law_666) <|
  XPr.cons (xs_iald dL_law_667) <|
  XPr.cons (xs_callV (T := TX5) rfl gw_1128 gw_1129 gw_1130 gw_77 gw_1131 (by decide +kernel) (Nat.le_of_ble_eq_true rfl) dL_law_668) <|
  XPr.cons (xs_ic_eq dL_law_671 (by decide +kernel)) <|
  XPr.cons (xs_iconst dL_law_674 (by decide +kernel)) <|
  XPr.cons (xs_zret rfl dL_law_675) <|
  XPr.nil
def pL_19 : List (Nat × XOp) := [(676, xo_al 1 677), (677, xo_al 0 678), (678, xo_il 3 679), (679, xo_ic 1 680), (680, xo_iadd 681), (681, xo_iald 682), (682, xo_al 0 683), (683, xo_il 3 684), (684, xo_ic 2 685), (685, xo_iadd 686), (686, xo_iald 687), (687, xo_callV yX4_film cX4_film 5 (some .int) 2 4 690), (690, xo_al 2 691), (691, xo_al 0 692), (692, xo_il 3 693), (693, xo_ic 1 694), (694, xo_iadd 695), (695, xo_iald 696), (696, xo_al 0 697), (697, xo_il 3 698), (698, xo_ic 2 699), (699, xo_iadd 700), (700, xo_iald 701), (701, xo_callV yX5_film cX5_film 4 (some .int) 2 5 704), (704, xo_ic_eq 1070 707), (707, xo_ic 0 708), (708, xo_zret)]
theorem sL_19 : XPr RL cL_law 4 (some .boolean) 112 pL_19 :=
  XPr.cons (xs_aload_n dL_law_676 rfl) <|
  XPr.cons (xs_aload_n dL_law_677 rfl) <|
  XPr.cons (xs_iload_n dL_law_678 rfl) <|
  XPr.cons (xs_iconst dL_law_679 (by decide +kernel)) <|
  XPr.cons (xs_iadd dL_law_680) <|
  XPr.cons (xs_iald dL_law_681) <|
  XPr.cons (xs_aload_n dL_law_682 rfl) <|
  XPr.cons (xs_iload_n dL_law_683 rfl) <|
  XPr.cons (xs_iconst dL_law_684 (by decide +kernel)) <|
  XPr.cons (xs_iadd dL_law_685) <|
  XPr.cons (xs_iald dL_law_686) <|
  XPr.cons (xs_callV (T := TX4) rfl gw_643 gw_644 gw_645 gw_72 gw_646 (by decide +kernel) (Nat.le_of_ble_eq_true rfl) dL_law_687) <|
  XPr.cons (xs_aload_n dL_law_690 rfl) <|
  XPr.cons (xs_aload_n dL_law_691 rfl) <|
  XPr.cons (xs_iload_n dL_law_692 rfl) <|
  XPr.cons (xs_iconst dL_law_693 (by decide +kernel)) <|
  XPr.cons (xs_iadd dL_law_694) <|
  XPr.cons (xs_iald dL_law_695) <|
  XPr.cons (xs_aload_n dL_law_696 rfl) <|
  XPr.cons (xs_iload_n dL_law_697 rfl) <|
  XPr.cons (xs_iconst dL_law_698 (by decide +kernel)) <|
  XPr.cons (xs_iadd dL_law_699) <|
  XPr.cons (xs_iald dL_law_700) <|
  XPr.cons (xs_callV (T := TX5) rfl gw_1145 gw_1146 gw_1147 gw_77 gw_1148 (by decide +kernel) (Nat.le_of_ble_eq_true rfl) dL_law_701) <|
  XPr.cons (xs_ic_eq dL_law_704 (by decide +kernel)) <|
  XPr.cons (xs_iconst dL_law_707 (by decide +kernel)) <|
  XPr.cons (xs_zret rfl dL_law_708) <|
  XPr.nil
def pL_20 : List (Nat × XOp) := [(709, xo_al 1 710), (710, xo_al 0 711), (711, xo_il 3 712), (712, xo_ic 1 713), (713, xo_iadd 714), (714, xo_iald 715), (715, xo_al 0 716), (716, xo_il 3 717), (717, xo_ic 2 718), (718, xo_iadd 719), (719, xo_iald 720), (720, xo_callV yX4_drawn cX4_drawn 3 (some .int) 2 4 723), (723, xo_al 2 724), (724, xo_al 0 725), (725, xo_il 3 726), (726, xo_ic 1 727), (727, xo_iadd 728), (728, xo_iald 729), (729, xo_al 0 730), (730, xo_il 3 731), (731, xo_ic 2 732), (732, xo_iadd 733), (733, xo_iald 734), (734, xo_callV yX5_drawn cX5_drawn 3 (some .int) 2 5 737), (737, xo_ic_eq 1070 740), (740, xo_ic 0 741), (741, xo_zret)]
theorem sL_20 : XPr RL cL_law 4 (some .boolean) 112 pL_20 :=
  XPr.cons (xs_aload_n dL_law_709 rfl) <|
  XPr.cons (xs_aload_n dL_law_710 rfl) <|
  XPr.cons (xs_iload_n dL_law_711 rfl) <|
  XPr.cons (xs_iconst dL_law_712 (by decide +kernel)) <|
  XPr.cons (xs_iadd dL_law_713) <|
  XPr.cons (xs_iald dL_law_714) <|
  XPr.cons (xs_aload_n dL_law_715 rfl) <|
  XPr.cons (xs_iload_n dL_law_716 rfl) <|
  XPr.cons (xs_iconst dL_law_717 (by decide +kernel)) <|
  XPr.cons (xs_iadd dL_law_718) <|
  XPr.cons (xs_iald dL_law_719) <|
  XPr.cons (xs_callV (T := TX4) rfl gw_662 gw_663 gw_664 gw_72 gw_665 (by decide +kernel) (Nat.le_of_ble_eq_true rfl) dL_law_720) <|
  XPr.cons (xs_aload_n dL_law_723 rfl) <|
  XPr.cons (xs_aload_n dL_law_724 rfl) <|
  XPr.cons (xs_iload_n dL_law_725 rfl) <|
  XPr.cons (xs_iconst dL_law_726 (by decide +kernel)) <|
  XPr.cons (xs_iadd dL_law_727) <|
  XPr.cons (xs_iald dL_law_728) <|
  XPr.cons (xs_aload_n dL_law_729 rfl) <|
  XPr.cons (xs_iload_n dL_law_730 rfl) <|
  XPr.cons (xs_iconst dL_law_731 (by decide +kernel)) <|
  XPr.cons (xs_iadd dL_law_732) <|
  XPr.cons (xs_iald dL_law_733) <|
  XPr.cons (xs_callV (T := TX5) rfl gw_1154 gw_1155 gw_1156 gw_77 gw_1157 (by decide +kernel) (Nat.le_of_ble_eq_true rfl) dL_law_734) <|
  XPr.cons (xs_ic_eq dL_law_737 (by decide +kernel)) <|
  XPr.cons (xs_iconst dL_law_740 (by decide +kernel)) <|
  XPr.cons (xs_zret rfl dL_law_741) <|
  XPr.nil
def pL_21 : List (Nat × XOp) := [(742, xo_al 1 743), (743, xo_al 0 744), (744, xo_il 3 745), (745, xo_ic 1 746), (746, xo_iadd 747), (747, xo_iald 748), (748, xo_al 0 749), (749, xo_il 3 750), (750, xo_ic 2 751), (751, xo_iadd 752), (752, xo_iald 753), (753, xo_al 0 754), (754, xo_il 3 755), (755, xo_ic 3 756), (756, xo_iadd 757), (757, xo_iald 758), (758, xo_callV yX4_chance cX4_chance 6 (some .long) 3 4 761), (761, xo_al 2 762), (762, xo_al 0 763), (763, xo_il 3 764), (764, xo_ic 1 765), (765, xo_iadd 766), (766, xo_iald 767), (767, xo_al 0 768), (768, xo_il 3 769), (769, xo_ic 2 770), (770, xo_iadd 771), (771, xo_iald 772), (772, xo_al 0 773), (773, xo_il 3 774), (774, xo_ic 3 775), (775, xo_iadd 776), (776, xo_iald 777), (777, xo_callV yX5_chance cX5_chance 7 (some .long) 3 5 780), (780, xo_lcmp 781), (781, xo_if_eq 1070 784), (784, xo_ic 0 785), (785, xo_zret)]
theorem sL_21 : XPr RL cL_law 4 (some .boolean) 112 pL_21 :=
  XPr.cons (xs_aload_n dL_law_742 rfl) <|
  XPr.cons (xs_aload_n dL_law_743 rfl) <|
  XPr.cons (xs_iload_n dL_law_744 rfl) <|
  XPr.cons (xs_iconst dL_law_745 (by decide +kernel)) <|
  XPr.cons (xs_iadd dL_law_746) <|
  XPr.cons (xs_iald dL_law_747) <|
  XPr.cons (xs_aload_n dL_law_748 rfl) <|
  XPr.cons (xs_iload_n dL_law_749 rfl) <|
  XPr.cons (xs_iconst dL_law_750 (by decide +kernel)) <|
  XPr.cons (xs_iadd dL_law_751) <|
  XPr.cons (xs_iald dL_law_752) <|
  XPr.cons (xs_aload_n dL_law_753 rfl) <|
  XPr.cons (xs_iload_n dL_law_754 rfl) <|
  XPr.cons (xs_iconst dL_law_755 (by decide +kernel)) <|
  XPr.cons (xs_iadd dL_law_756) <|
  XPr.cons (xs_iald dL_law_757) <|
  XPr.cons (xs_callV (T := TX4) rfl gw_671 gw_672 gw_673 gw_72 gw_674 (by decide +kernel) (Nat.le_of_ble_eq_true rfl) dL_law_758) <|
  XPr.cons (xs_aload_n dL_law_761 rfl) <|
  XPr.cons (xs_aload_n dL_law_762 rfl) <|
  XPr.cons (xs_iload_n dL_law_763 rfl) <|
  XPr.cons (xs_iconst dL_law_764 (by decide +kernel)) <|
  XPr.cons (xs_iadd dL_law_765) <|
  XPr.cons (xs_iald dL_law_766) <|
  XPr.cons (xs_aload_n dL_law_767 rfl) <|
  XPr.cons (xs_iload_n dL_law_768 rfl) <|
  XPr.cons (xs_iconst dL_law_769 (by decide +kernel)) <|
  XPr.cons (xs_iadd dL_law_770) <|
  XPr.cons (xs_iald dL_law_771) <|
  XPr.cons (xs_aload_n dL_law_772 rfl) <|
  XPr.cons (xs_iload_n dL_law_773 rfl) <|
  XPr.cons (xs_iconst dL_law_774 (by decide +kernel)) <|
  XPr.cons (xs_iadd dL_law_775) <|
  XPr.cons (xs_iald dL_law_776) <|
  XPr.cons (xs_callV (T := TX5) rfl gw_1163 gw_1164 gw_1165 gw_77 gw_1166 (by decide +kernel) (Nat.le_of_ble_eq_true rfl) dL_law_777) <|
  XPr.cons (xs_lcmp dL_law_780) <|
  XPr.cons (xs_if_eq dL_law_781 (by decide +kernel)) <|
  XPr.cons (xs_iconst dL_law_784 (by decide +kernel)) <|
  XPr.cons (xs_zret rfl dL_law_785) <|
  XPr.nil
def pL_22 : List (Nat × XOp) := [(786, xo_al 1 787), (787, xo_callV yX4_image cX4_image 1 (some .int) 0 4 790), (790, xo_al 2 791), (791, xo_callV yX5_image cX5_image 2 (some .int) 0 5 794), (794, xo_ic_eq 1070 797), (797, xo_ic 0 798), (798, xo_zret)]
theorem sL_22 : XPr RL cL_law 4 (some .boolean) 112 pL_22 :=
  XPr.cons (xs_aload_n dL_law_786 rfl) <|
  XPr.cons (xs_callV (T := TX4) rfl gw_675 gw_676 gw_677 gw_72 gw_678 (by decide +kernel) (Nat.le_of_ble_eq_true rfl) dL_law_787) <|
  XPr.cons (xs_aload_n dL_law_790 rfl) <|
  XPr.cons (xs_callV (T := TX5) rfl gw_1167 gw_1168 gw_1169 gw_77 gw_1170 (by decide +kernel) (Nat.le_of_ble_eq_true rfl) dL_law_791) <|
  XPr.cons (xs_ic_eq dL_law_794 (by decide +kernel)) <|
  XPr.cons (xs_iconst dL_law_797 (by decide +kernel)) <|
  XPr.cons (xs_zret rfl dL_law_798) <|
  XPr.nil
def pL_23 : List (Nat × XOp) := [(799, xo_al 1 800), (800, xo_callV yX4_back cX4_back 1 (some .int) 0 4 803), (803, xo_al 2 804), (804, xo_callV yX5_back cX5_back 2 (some .int) 0 5 807), (807, xo_ic_eq 1070 810), (810, xo_ic 0 811), (811, xo_zret)]
theorem sL_23 : XPr RL cL_law 4 (some .boolean) 112 pL_23 :=
  XPr.cons (xs_aload_n dL_law_799 rfl) <|
  XPr.cons (xs_callV (T := TX4) rfl gw_679 gw_680 gw_681 gw_72 gw_682 (by decide +kernel) (Nat.le_of_ble_eq_true rfl) dL_law_800) <|
  XPr.cons (xs_aload_n dL_law_803 rfl) <|
  XPr.cons (xs_callV (T := TX5) rfl gw_1171 gw_1172 gw_1173 gw_77 gw_1174 (by decide +kernel) (Nat.le_of_ble_eq_true rfl) dL_law_804) <|
  XPr.cons (xs_ic_eq dL_law_807 (by decide +kernel)) <|
  XPr.cons (xs_iconst dL_law_810 (by decide +kernel)) <|
  XPr.cons (xs_zret rfl dL_law_811) <|
  XPr.nil
def pL_24 : List (Nat × XOp) := [(812, xo_al 1 813), (813, xo_al 0 814), (814, xo_il 3 815), (815, xo_ic 1 816), (816, xo_iadd 817), (817, xo_iald 818), (818, xo_callV yX4_count cX4_count 2 (some .int) 1 4 821), (821, xo_al 2 822), (822, xo_al 0 823), (823, xo_il 3 824), (824, xo_ic 1 825), (825, xo_iadd 826), (826, xo_iald 827), (827, xo_callV yX5_count cX5_count 2 (some .int) 1 5 830), (830, xo_ic_eq 1070 833), (833, xo_ic 0 834), (834, xo_zret)]
theorem sL_24 : XPr RL cL_law 4 (some .boolean) 112 pL_24 :=
  XPr.cons (xs_aload_n dL_law_812 rfl) <|
  XPr.cons (xs_aload_n dL_law_813 rfl) <|
  XPr.cons (xs_iload_n dL_law_814 rfl) <|
  XPr.cons (xs_iconst dL_law_815 (by decide +kernel)) <|
  XPr.cons (xs_iadd dL_law_816) <|
  XPr.cons (xs_iald dL_law_817) <|
  XPr.cons (xs_callV (T := TX4) rfl gw_683 gw_684 gw_685 gw_72 gw_686 (by decide +kernel) (Nat.le_of_ble_eq_true rfl) dL_law_818) <|
  XPr.cons (xs_aload_n dL_law_821 rfl) <|
  XPr.cons (xs_aload_n dL_law_822 rfl) <|
  XPr.cons (xs_iload_n dL_law_823 rfl) <|
  XPr.cons (xs_iconst dL_law_824 (by decide +kernel)) <|
  XPr.cons (xs_iadd dL_law_825) <|
  XPr.cons (xs_iald dL_law_826) <|
  XPr.cons (xs_callV (T := TX5) rfl gw_1175 gw_1176 gw_1177 gw_77 gw_1178 (by decide +kernel) (Nat.le_of_ble_eq_true rfl) dL_law_827) <|
  XPr.cons (xs_ic_eq dL_law_830 (by decide +kernel)) <|
  XPr.cons (xs_iconst dL_law_833 (by decide +kernel)) <|
  XPr.cons (xs_zret rfl dL_law_834) <|
  XPr.nil
def pL_25 : List (Nat × XOp) := [(835, xo_al 1 836), (836, xo_al 0 837), (837, xo_il 3 838), (838, xo_ic 1 839), (839, xo_iadd 840), (840, xo_iald 841), (841, xo_al 0 842), (842, xo_il 3 843), (843, xo_ic 2 844), (844, xo_iadd 845), (845, xo_iald 846), (846, xo_al 0 847), (847, xo_il 3 848), (848, xo_ic 3 849), (849, xo_iadd 850), (850, xo_iald 851), (851, xo_callV yX4_sheet cX4_sheet 4 (some .int) 3 4 854), (854, xo_al 2 855), (855, xo_al 0 856), (856, xo_il 3 857), (857, xo_ic 1 858), (858, xo_iadd 859), (859, xo_iald 860), (860, xo_al 0 861), (861, xo_il 3 862), (862, xo_ic 2 863), (863, xo_iadd 864), (864, xo_iald 865), (865, xo_al 0 866), (866, xo_il 3 867), (867, xo_ic 3 868), (868, xo_iadd 869), (869, xo_iald 870), (870, xo_callV yX5_sheet cX5_sheet 5 (some .int) 3 5 873), (873, xo_ic_eq 1070 876), (876, xo_ic 0 877), (877, xo_zret)]
theorem sL_25 : XPr RL cL_law 4 (some .boolean) 112 pL_25 :=
  XPr.cons (xs_aload_n dL_law_835 rfl) <|
  XPr.cons (xs_aload_n dL_law_836 rfl) <|
  XPr.cons (xs_iload_n dL_law_837 rfl) <|
  XPr.cons (xs_iconst dL_law_838 (by decide +kernel)) <|
  XPr.cons (xs_iadd dL_law_839) <|
  XPr.cons (xs_iald dL_law_840) <|
  XPr.cons (xs_aload_n dL_law_841 rfl) <|
  XPr.cons (xs_iload_n dL_law_842 rfl) <|
  XPr.cons (xs_iconst dL_law_843 (by decide +kernel)) <|
  XPr.cons (xs_iadd dL_law_844) <|
  XPr.cons (xs_iald dL_law_845) <|
  XPr.cons (xs_aload_n dL_law_846 rfl) <|
  XPr.cons (xs_iload_n dL_law_847 rfl) <|
  XPr.cons (xs_iconst dL_law_848 (by decide +kernel)) <|
  XPr.cons (xs_iadd dL_law_849) <|
  XPr.cons (xs_iald dL_law_850) <|
  XPr.cons (xs_callV (T := TX4) rfl gw_687 gw_688 gw_689 gw_72 gw_690 (by decide +kernel) (Nat.le_of_ble_eq_true rfl) dL_law_851) <|
  XPr.cons (xs_aload_n dL_law_854 rfl) <|
  XPr.cons (xs_aload_n dL_law_855 rfl) <|
  XPr.cons (xs_iload_n dL_law_856 rfl) <|
  XPr.cons (xs_iconst dL_law_857 (by decide +kernel)) <|
  XPr.cons (xs_iadd dL_law_858) <|
  XPr.cons (xs_iald dL_law_859) <|
  XPr.cons (xs_aload_n dL_law_860 rfl) <|
  XPr.cons (xs_iload_n dL_law_861 rfl) <|
  XPr.cons (xs_iconst dL_law_862 (by decide +kernel)) <|
  XPr.cons (xs_iadd dL_law_863) <|
  XPr.cons (xs_iald dL_law_864) <|
  XPr.cons (xs_aload_n dL_law_865 rfl) <|
  XPr.cons (xs_iload_n dL_law_866 rfl) <|
  XPr.cons (xs_iconst dL_law_867 (by decide +kernel)) <|
  XPr.cons (xs_iadd dL_law_868) <|
  XPr.cons (xs_iald dL_law_869) <|
  XPr.cons (xs_callV (T := TX5) rfl gw_1183 gw_1150 gw_1151 gw_77 gw_1152 (by decide +kernel) (Nat.le_of_ble_eq_true rfl) dL_law_870) <|
  XPr.cons (xs_ic_eq dL_law_873 (by decide +kernel)) <|
  XPr.cons (xs_iconst dL_law_876 (by decide +kernel)) <|
  XPr.cons (xs_zret rfl dL_law_877) <|
  XPr.nil
def pL_26 : List (Nat × XOp) := [(878, xo_al 1 879), (879, xo_al 0 880), (880, xo_il 3 881), (881, xo_ic 1 882), (882, xo_iadd 883), (883, xo_iald 884), (884, xo_al 0 885), (885, xo_il 3 886), (886, xo_ic 2 887), (887, xo_iadd 888), (888, xo_iald 889), (889, xo_al 0 890), (890, xo_il 3 891), (891, xo_ic 3 892), (892, xo_iadd 893), (893, xo_iald 894), (894, xo_callV yX4_cell cX4_cell 5 (some .int) 3 4 897), (897, xo_al 2 898), (898, xo_al 0 899), (899, xo_il 3 900), (900, xo_ic 1 901), (901, xo_iadd 902), (902, xo_iald 903), (903, xo_al 0 904), (904, xo_il 3 905), (905, xo_ic 2 906), (906, xo_iadd 907), (907, xo_iald 908), (908, xo_al 0 909), (909, xo_il 3 910), (910, xo_ic 3 911), (911, xo_iadd 912), (912, xo_iald 913), (913, xo_callV yX5_cell cX5_cell 4 (some .int) 3 5 916), (916, xo_ic_eq 1070 919), (919, xo_ic 0 920), (920, xo_zret)]
theorem sL_26 : XPr RL cL_law 4 (some .boolean) 112 pL_26 :=
  XPr.cons (xs_aload_n dL_law_878 rfl) <|
  XPr.cons (xs_aload_n dL_law_879 rfl) <|
  XPr.cons (xs_iload_n dL_law_880 rfl) <|
  XPr.cons (xs_iconst dL_law_881 (by decide +kernel)) <|
  XPr.cons (xs_iadd dL_law_882) <|
  XPr.cons (xs_iald dL_law_883) <|
  XPr.cons (xs_aload_n dL_law_884 rfl) <|
  XPr.cons (xs_iload_n dL_law_885 rfl) <|
  XPr.cons (xs_iconst dL_law_886 (by decide +kernel)) <|
  XPr.cons (xs_iadd dL_law_887) <|
  XPr.cons (xs_iald dL_law_888) <|
  XPr.cons (xs_aload_n dL_law_889 rfl) <|
  XPr.cons (xs_iload_n dL_law_890 rfl) <|
  XPr.cons (xs_iconst dL_law_891 (by decide +kernel)) <|
  XPr.cons (xs_iadd dL_law_892) <|
  XPr.cons (xs_iald dL_law_893) <|
  XPr.cons (xs_callV (T := TX4) rfl gw_691 gw_692 gw_693 gw_72 gw_694 (by decide +kernel) (Nat.le_of_ble_eq_true rfl) dL_law_894) <|
  XPr.cons (xs_aload_n dL_law_897 rfl) <|
  XPr.cons (xs_aload_n dL_law_898 rfl) <|
  XPr.cons (xs_iload_n dL_law_899 rfl) <|
  XPr.cons (xs_iconst dL_law_900 (by decide +kernel)) <|
  XPr.cons (xs_iadd dL_law_901) <|
  XPr.cons (xs_iald dL_law_902) <|
  XPr.cons (xs_aload_n dL_law_903 rfl) <|
  XPr.cons (xs_iload_n dL_law_904 rfl) <|
  XPr.cons (xs_iconst dL_law_905 (by decide +kernel)) <|
  XPr.cons (xs_iadd dL_law_906) <|
  XPr.cons (xs_iald dL_law_907) <|
  XPr.cons (xs_aload_n dL_law_908 rfl) <|
  XPr.cons (xs_iload_n dL_law_909 rfl) <|
  XPr.cons (xs_iconst dL_law_910 (by decide +kernel)) <|
  XPr.cons (xs_iadd dL_law_911) <|
  XPr.cons (xs_iald dL_law_912) <|
  XPr.cons (xs_callV (T := TX5) rfl gw_1184 gw_1185 gw_1186 gw_77 gw_1187 (by decide +kernel) (Nat.le_of_ble_eq_true rfl) dL_law_913) <|
  XPr.cons (xs_ic_eq dL_law_916 (by decide +kernel)) <|
  XPr.cons (xs_iconst dL_law_919 (by decide +kernel)) <|
  XPr.cons (xs_zret rfl dL_law_920) <|
  XPr.nil
def pL_27 : List (Nat × XOp) := [(921, xo_al 1 922), (922, xo_al 0 923), (923, xo_il 3 924), (924, xo_ic 1 925), (925, xo_iadd 926), (926, xo_iald 927), (927, xo_al 0 928), (928, xo_il 3 929), (929, xo_ic 2 930), (930, xo_iadd 931), (931, xo_iald 932), (932, xo_al 0 933), (933, xo_il 3 934), (934, xo_ic 3 935), (935, xo_iadd 936), (936, xo_iald 937), (937, xo_al 0 938), (938, xo_il 3 939), (939, xo_ic 4 940), (940, xo_iadd 941), (941, xo_iald 942), (942, xo_al 0 943), (943, xo_il 3 944), (944, xo_ic 5 945), (945, xo_iadd 946), (946, xo_iald 947), (947, xo_callV yX4_copy cX4_copy 8 (some .int) 5 4 950), (950, xo_al 2 951), (951, xo_al 0 952), (952, xo_il 3 953), (953, xo_ic 1 954), (954, xo_iadd 955), (955, xo_iald 956), (956, xo_al 0 957), (957, xo_il 3 958), (958, xo_ic 2 959), (959, xo_iadd 960), (960, xo_iald 961), (961, xo_al 0 962), (962, xo_il 3 963), (963, xo_ic 3 964), (964, xo_iadd 965), (965, xo_iald 966), (966, xo_al 0 967), (967, xo_il 3 968), (968, xo_ic 4 969), (969, xo_iadd 970), (970, xo_iald 971), (971, xo_al 0 972), (972, xo_il 3 973), (973, xo_ic 5 974), (974, xo_iadd 975), (975, xo_iald 976), (976, xo_callV yX5_copy cX5_copy 9 (some .int) 5 5 979), (979, xo_ic_eq 1070 982), (982, xo_ic 0 983), (983, xo_zret)]
theorem sL_27 : XPr RL cL_law 4 (some .boolean) 112 pL_27 :=
  XPr.cons (xs_aload_n dL_law_921 rfl) <|
  XPr.cons (xs_aload_n dL_law_922 rfl) <|
  XPr.cons (xs_iload_n dL_law_923 rfl) <|
  XPr.cons (xs_iconst dL_law_924 (by decide +kernel)) <|
  XPr.cons (xs_iadd dL_law_925) <|
  XPr.cons (xs_iald dL_law_926) <|
  XPr.cons (xs_aload_n dL_law_927 rfl) <|
  XPr.cons (xs_iload_n dL_law_928 rfl) <|
  XPr.cons (xs_iconst dL_law_929 (by decide +kernel)) <|
  XPr.cons (xs_iadd dL_law_930) <|
  XPr.cons (xs_iald dL_law_931) <|
  XPr.cons (xs_aload_n dL_law_932 rfl) <|
  XPr.cons (xs_iload_n dL_law_933 rfl) <|
  XPr.cons (xs_iconst dL_law_934 (by decide +kernel)) <|
  XPr.cons (xs_iadd dL_law_935) <|
  XPr.cons (xs_iald dL_law_936) <|
  XPr.cons (xs_aload_n dL_law_937 rfl) <|
  XPr.cons (xs_iload_n dL_law_938 rfl) <|
  XPr.cons (xs_iconst dL_law_939 (by decide +kernel)) <|
  XPr.cons (xs_iadd dL_law_940) <|
  XPr.cons (xs_iald dL_law_941) <|
  XPr.cons (xs_aload_n dL_law_942 rfl) <|
  XPr.cons (xs_iload_n dL_law_943 rfl) <|
  XPr.cons (xs_iconst dL_law_944 (by decide +kernel)) <|
  XPr.cons (xs_iadd dL_law_945) <|
  XPr.cons (xs_iald dL_law_946) <|
  XPr.cons (xs_callV (T := TX4) rfl gw_696 gw_697 gw_698 gw_72 gw_699 (by decide +kernel) (Nat.le_of_ble_eq_true rfl) dL_law_947) <|
  XPr.cons (xs_aload_n dL_law_950 rfl) <|
  XPr.cons (xs_aload_n dL_law_951 rfl) <|
  XPr.cons (xs_iload_n dL_law_952 rfl) <|
  XPr.cons (xs_iconst dL_law_953 (by decide +kernel)) <|
  XPr.cons (xs_iadd dL_law_954) <|
  XPr.cons (xs_iald dL_law_955) <|
  XPr.cons (xs_aload_n dL_law_956 rfl) <|
  XPr.cons (xs_iload_n dL_law_957 rfl) <|
  XPr.cons (xs_iconst dL_law_958 (by decide +kernel)) <|
  XPr.cons (xs_iadd dL_law_959) <|
  XPr.cons (xs_iald dL_law_960) <|
  XPr.cons (xs_aload_n dL_law_961 rfl) <|
  XPr.cons (xs_iload_n dL_law_962 rfl) <|
  XPr.cons (xs_iconst dL_law_963 (by decide +kernel)) <|
  XPr.cons (xs_iadd dL_law_964) <|
  XPr.cons (xs_iald dL_law_965) <|
  XPr.cons (xs_aload_n dL_law_966 rfl) <|
  XPr.cons (xs_iload_n dL_law_967 rfl) <|
  XPr.cons (xs_iconst dL_law_968 (by decide +kernel)) <|
  XPr.cons (xs_iadd dL_law_969) <|
  XPr.cons (xs_iald dL_law_970) <|
  XPr.cons (xs_aload_n dL_law_971 rfl) <|
  XPr.cons (xs_iload_n dL_law_972 rfl) <|
  XPr.cons (xs_iconst dL_law_973 (by decide +kernel)) <|
  XPr.cons (xs_iadd dL_law_974) <|
  XPr.cons (xs_iald dL_law_975) <|
  XPr.cons (xs_callV (T := TX5) rfl gw_1188 gw_1189 gw_1190 gw_77 gw_1191 (by decide +kernel) (Nat.le_of_ble_eq_true rfl) dL_law_976) <|
  XPr.cons (xs_ic_eq dL_law_979 (by decide +kernel)) <|
  XPr.cons (xs_iconst dL_law_982 (by decide +kernel)) <|
  XPr.cons (xs_zret rfl dL_law_983) <|
  XPr.nil
def pL_28 : List (Nat × XOp) := [(984, xo_al 1 985), (985, xo_al 0 986), (986, xo_il 3 987), (987, xo_ic 1 988), (988, xo_iadd 989), (989, xo_iald 990), (990, xo_al 0 991), (991, xo_il 3 992), (992, xo_ic 2 993), (993, xo_iadd 994), (994, xo_iald 995), (995, xo_al 0 996), (996, xo_il 3 997), (997, xo_ic 3 998), (998, xo_iadd 999), (999, xo_iald 1000), (1000, xo_al 0 1001), (1001, xo_il 3 1002), (1002, xo_ic 4 1003), (1003, xo_iadd 1004), (1004, xo_iald 1005), (1005, xo_callV yX4_gang cX4_gang 9 (some .int) 4 4 1008), (1008, xo_al 2 1009), (1009, xo_al 0 1010), (1010, xo_il 3 1011), (1011, xo_ic 1 1012), (1012, xo_iadd 1013), (1013, xo_iald 1014), (1014, xo_al 0 1015), (1015, xo_il 3 1016), (1016, xo_ic 2 1017), (1017, xo_iadd 1018), (1018, xo_iald 1019), (1019, xo_al 0 1020), (1020, xo_il 3 1021), (1021, xo_ic 3 1022), (1022, xo_iadd 1023), (1023, xo_iald 1024), (1024, xo_al 0 1025), (1025, xo_il 3 1026), (1026, xo_ic 4 1027), (1027, xo_iadd 1028), (1028, xo_iald 1029), (1029, xo_callV yX5_gang cX5_gang 8 (some .int) 4 5 1032), (1032, xo_ic_eq 1070 1035), (1035, xo_ic 0 1036), (1036, xo_zret)]
theorem sL_28 : XPr RL cL_law 4 (some .boolean) 112 pL_28 :=
  XPr.cons (xs_aload_n dL_law_984 rfl) <|
  XPr.cons (xs_aload_n dL_law_985 rfl) <|
  XPr.cons (xs_iload_n dL_law_986 rfl) <|
  XPr.cons (xs_iconst dL_law_987 (by decide +kernel)) <|
  XPr.cons (xs_iadd dL_law_988) <|
  XPr.cons (xs_iald dL_law_989) <|
  XPr.cons (xs_aload_n dL_law_990 rfl) <|
  XPr.cons (xs_iload_n dL_law_991 rfl) <|
  XPr.cons (xs_iconst dL_law_992 (by decide +kernel)) <|
  XPr.cons (xs_iadd dL_law_993) <|
  XPr.cons (xs_iald dL_law_994) <|
  XPr.cons (xs_aload_n dL_law_995 rfl) <|
  XPr.cons (xs_iload_n dL_law_996 rfl) <|
  XPr.cons (xs_iconst dL_law_997 (by decide +kernel)) <|
  XPr.cons (xs_iadd dL_law_998) <|
  XPr.cons (xs_iald dL_law_999) <|
  XPr.cons (xs_aload_n dL_law_1000 rfl) <|
  XPr.cons (xs_iload_n dL_law_1001 rfl) <|
  XPr.cons (xs_iconst dL_law_1002 (by decide +kernel)) <|
  XPr.cons (xs_iadd dL_law_1003) <|
  XPr.cons (xs_iald dL_law_1004) <|
  XPr.cons (xs_callV (T := TX4) rfl gw_701 gw_702 gw_703 gw_72 gw_704 (by decide +kernel) (Nat.le_of_ble_eq_true rfl) dL_law_1005) <|
  XPr.cons (xs_aload_n dL_law_1008 rfl) <|
  XPr.cons (xs_aload_n dL_law_1009 rfl) <|
  XPr.cons (xs_iload_n dL_law_1010 rfl) <|
  XPr.cons (xs_iconst dL_law_1011 (by decide +kernel)) <|
  XPr.cons (xs_iadd dL_law_1012) <|
  XPr.cons (xs_iald dL_law_1013) <|
  XPr.cons (xs_aload_n dL_law_1014 rfl) <|
  XPr.cons (xs_iload_n dL_law_1015 rfl) <|
  XPr.cons (xs_iconst dL_law_1016 (by decide +kernel)) <|
  XPr.cons (xs_iadd dL_law_1017) <|
  XPr.cons (xs_iald dL_law_1018) <|
  XPr.cons (xs_aload_n dL_law_1019 rfl) <|
  XPr.cons (xs_iload_n dL_law_1020 rfl) <|
  XPr.cons (xs_iconst dL_law_1021 (by decide +kernel)) <|
  XPr.cons (xs_iadd dL_law_1022) <|
  XPr.cons (xs_iald dL_law_1023) <|
  XPr.cons (xs_aload_n dL_law_1024 rfl) <|
  XPr.cons (xs_iload_n dL_law_1025 rfl) <|
  XPr.cons (xs_iconst dL_law_1026 (by decide +kernel)) <|
  XPr.cons (xs_iadd dL_law_1027) <|
  XPr.cons (xs_iald dL_law_1028) <|
  XPr.cons (xs_callV (T := TX5) rfl gw_1192 gw_1193 gw_1194 gw_77 gw_1195 (by decide +kernel) (Nat.le_of_ble_eq_true rfl) dL_law_1029) <|
  XPr.cons (xs_ic_eq dL_law_1032 (by decide +kernel)) <|
  XPr.cons (xs_iconst dL_law_1035 (by decide +kernel)) <|
  XPr.cons (xs_zret rfl dL_law_1036) <|
  XPr.nil
def pL_29 : List (Nat × XOp) := [(1037, xo_al 1 1038), (1038, xo_al 0 1039), (1039, xo_il 3 1040), (1040, xo_ic 1 1041), (1041, xo_iadd 1042), (1042, xo_iald 1043), (1043, xo_al 0 1044), (1044, xo_il 3 1045), (1045, xo_ic 2 1046), (1046, xo_iadd 1047), (1047, xo_iald 1048), (1048, xo_callV yX4_taken cX4_taken 5 (some .int) 2 4 1051), (1051, xo_al 2 1052), (1052, xo_al 0 1053), (1053, xo_il 3 1054), (1054, xo_ic 1 1055), (1055, xo_iadd 1056), (1056, xo_iald 1057), (1057, xo_al 0 1058), (1058, xo_il 3 1059), (1059, xo_ic 2 1060), (1060, xo_iadd 1061), (1061, xo_iald 1062), (1062, xo_callV yX5_taken cX5_taken 4 (some .int) 2 5 1065), (1065, xo_ic_eq 1070 1068), (1068, xo_ic 0 1069), (1069, xo_zret)]
theorem sL_29 : XPr RL cL_law 4 (some .boolean) 112 pL_29 :=
  XPr.cons (xs_aload_n dL_law_1037 rfl) <|
  XPr.cons (xs_aload_n dL_law_1038 rfl) <|
  XPr.cons (xs_iload_n dL_law_1039 rfl) <|
  XPr.cons (xs_iconst dL_law_1040 (by decide +kernel)) <|
  XPr.cons (xs_iadd dL_law_1041) <|
  XPr.cons (xs_iald dL_law_1042) <|
  XPr.cons (xs_aload_n dL_law_1043 rfl) <|
  XPr.cons (xs_iload_n dL_law_1044 rfl) <|
  XPr.cons (xs_iconst dL_law_1045 (by decide +kernel)) <|
  XPr.cons (xs_iadd dL_law_1046) <|
  XPr.cons (xs_iald dL_law_1047) <|
  XPr.cons (xs_callV (T := TX4) rfl gw_706 gw_707 gw_708 gw_72 gw_709 (by decide +kernel) (Nat.le_of_ble_eq_true rfl) dL_law_1048) <|
  XPr.cons (xs_aload_n dL_law_1051 rfl) <|
  XPr.cons (xs_aload_n dL_law_1052 rfl) <|
  XPr.cons (xs_iload_n dL_law_1053 rfl) <|
  XPr.cons (xs_iconst dL_law_1054 (by decide +kernel)) <|
  XPr.cons (xs_iadd dL_law_1055) <|
  XPr.cons (xs_iald dL_law_1056) <|
  XPr.cons (xs_aload_n dL_law_1057 rfl) <|
  XPr.cons (xs_iload_n dL_law_1058 rfl) <|
  XPr.cons (xs_iconst dL_law_1059 (by decide +kernel)) <|
  XPr.cons (xs_iadd dL_law_1060) <|
  XPr.cons (xs_iald dL_law_1061) <|
  XPr.cons (xs_callV (T := TX5) rfl gw_1197 gw_1198 gw_1199 gw_77 gw_1200 (by decide +kernel) (Nat.le_of_ble_eq_true rfl) dL_law_1062) <|
  XPr.cons (xs_ic_eq dL_law_1065 (by decide +kernel)) <|
  XPr.cons (xs_iconst dL_law_1068 (by decide +kernel)) <|
  XPr.cons (xs_zret rfl dL_law_1069) <|
  XPr.nil
def pL_T : List (Nat × XOp) := [(1070, xo_inc 3 6 1073), (1073, xo_goto 18), (1076, xo_ic 1 1077), (1077, xo_zret)]
theorem sL_T : XPr RL cL_law 4 (some .boolean) 112 pL_T :=
  XPr.cons (xs_iinc dL_law_1070 (by decide +kernel) (Nat.le_of_ble_eq_true rfl)) <|
  XPr.cons (xs_goto dL_law_1073 (by decide +kernel)) <|
  XPr.cons (xs_iconst dL_law_1076 (by decide +kernel)) <|
  XPr.cons (xs_zret rfl dL_law_1077) <|
  XPr.nil
