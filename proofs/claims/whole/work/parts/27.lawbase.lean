theorem lq_312 : Cond.methodLink RL 13 yX7_captain ∈ W0 := w0_mk 312 (by decide +kernel) rfl
theorem lq_313 : Cond.instanceMethod yX7_captain ∈ W0 := w0_mk 313 (by decide +kernel) rfl
theorem lq_314 : Cond.selects RX7 yX7_captain yX7_captain ∈ W0 := w0_mk 314 (by decide +kernel) rfl
theorem lq_45 : Cond.initialized RX7 ∈ W0 := w0_mk 45 (by decide +kernel) rfl
theorem lq_315 : Cond.code yX7_captain cX7_captain 5 (some .int) ∈ W0 := w0_mk 315 (by decide +kernel) rfl
theorem lq_712 : Cond.methodLink RL 17 yX8_captain ∈ W0 := w0_mk 712 (by decide +kernel) rfl
theorem lq_713 : Cond.instanceMethod yX8_captain ∈ W0 := w0_mk 713 (by decide +kernel) rfl
theorem lq_714 : Cond.selects RX8 yX8_captain yX8_captain ∈ W0 := w0_mk 714 (by decide +kernel) rfl
theorem lq_53 : Cond.initialized RX8 ∈ W0 := w0_mk 53 (by decide +kernel) rfl
theorem lq_715 : Cond.code yX8_captain cX8_captain 5 (some .int) ∈ W0 := w0_mk 715 (by decide +kernel) rfl
theorem lq_349 : Cond.methodLink RL 18 yX7_captains ∈ W0 := w0_mk 349 (by decide +kernel) rfl
theorem lq_350 : Cond.instanceMethod yX7_captains ∈ W0 := w0_mk 350 (by decide +kernel) rfl
theorem lq_351 : Cond.selects RX7 yX7_captains yX7_captains ∈ W0 := w0_mk 351 (by decide +kernel) rfl
theorem lq_352 : Cond.code yX7_captains cX7_captains 2 (some .int) ∈ W0 := w0_mk 352 (by decide +kernel) rfl
theorem lq_856 : Cond.methodLink RL 22 yX8_captains ∈ W0 := w0_mk 856 (by decide +kernel) rfl
theorem lq_857 : Cond.instanceMethod yX8_captains ∈ W0 := w0_mk 857 (by decide +kernel) rfl
theorem lq_858 : Cond.selects RX8 yX8_captains yX8_captains ∈ W0 := w0_mk 858 (by decide +kernel) rfl
theorem lq_859 : Cond.code yX8_captains cX8_captains 3 (some .int) ∈ W0 := w0_mk 859 (by decide +kernel) rfl
theorem lq_390 : Cond.methodLink RL 23 yX7_truth ∈ W0 := w0_mk 390 (by decide +kernel) rfl
theorem lq_391 : Cond.instanceMethod yX7_truth ∈ W0 := w0_mk 391 (by decide +kernel) rfl
theorem lq_392 : Cond.selects RX7 yX7_truth yX7_truth ∈ W0 := w0_mk 392 (by decide +kernel) rfl
theorem lq_393 : Cond.code yX7_truth cX7_truth 3 (some .int) ∈ W0 := w0_mk 393 (by decide +kernel) rfl
theorem lq_736 : Cond.methodLink RL 27 yX8_truth ∈ W0 := w0_mk 736 (by decide +kernel) rfl
theorem lq_737 : Cond.instanceMethod yX8_truth ∈ W0 := w0_mk 737 (by decide +kernel) rfl
theorem lq_738 : Cond.selects RX8 yX8_truth yX8_truth ∈ W0 := w0_mk 738 (by decide +kernel) rfl
theorem lq_739 : Cond.code yX8_truth cX8_truth 2 (some .int) ∈ W0 := w0_mk 739 (by decide +kernel) rfl
theorem lq_394 : Cond.methodLink RL 28 yX7_set ∈ W0 := w0_mk 394 (by decide +kernel) rfl
theorem lq_395 : Cond.instanceMethod yX7_set ∈ W0 := w0_mk 395 (by decide +kernel) rfl
theorem lq_396 : Cond.selects RX7 yX7_set yX7_set ∈ W0 := w0_mk 396 (by decide +kernel) rfl
theorem lq_397 : Cond.code yX7_set cX7_set 4 (some .int) ∈ W0 := w0_mk 397 (by decide +kernel) rfl
theorem lq_744 : Cond.methodLink RL 32 yX8_set ∈ W0 := w0_mk 744 (by decide +kernel) rfl
theorem lq_745 : Cond.instanceMethod yX8_set ∈ W0 := w0_mk 745 (by decide +kernel) rfl
theorem lq_746 : Cond.selects RX8 yX8_set yX8_set ∈ W0 := w0_mk 746 (by decide +kernel) rfl
theorem lq_747 : Cond.code yX8_set cX8_set 3 (some .int) ∈ W0 := w0_mk 747 (by decide +kernel) rfl
theorem lq_413 : Cond.methodLink RL 33 yX7_lot ∈ W0 := w0_mk 413 (by decide +kernel) rfl
theorem lq_414 : Cond.instanceMethod yX7_lot ∈ W0 := w0_mk 414 (by decide +kernel) rfl
theorem lq_415 : Cond.selects RX7 yX7_lot yX7_lot ∈ W0 := w0_mk 415 (by decide +kernel) rfl
theorem lq_416 : Cond.code yX7_lot cX7_lot 3 (some .int) ∈ W0 := w0_mk 416 (by decide +kernel) rfl
theorem lq_748 : Cond.methodLink RL 36 yX8_lot ∈ W0 := w0_mk 748 (by decide +kernel) rfl
theorem lq_749 : Cond.instanceMethod yX8_lot ∈ W0 := w0_mk 749 (by decide +kernel) rfl
theorem lq_750 : Cond.selects RX8 yX8_lot yX8_lot ∈ W0 := w0_mk 750 (by decide +kernel) rfl
theorem lq_751 : Cond.code yX8_lot cX8_lot 2 (some .int) ∈ W0 := w0_mk 751 (by decide +kernel) rfl
theorem lq_418 : Cond.methodLink RL 37 yX7_sail ∈ W0 := w0_mk 418 (by decide +kernel) rfl
theorem lq_419 : Cond.instanceMethod yX7_sail ∈ W0 := w0_mk 419 (by decide +kernel) rfl
theorem lq_420 : Cond.selects RX7 yX7_sail yX7_sail ∈ W0 := w0_mk 420 (by decide +kernel) rfl
theorem lq_421 : Cond.code yX7_sail cX7_sail 4 (some .int) ∈ W0 := w0_mk 421 (by decide +kernel) rfl
theorem lq_753 : Cond.methodLink RL 40 yX8_sail ∈ W0 := w0_mk 753 (by decide +kernel) rfl
theorem lq_754 : Cond.instanceMethod yX8_sail ∈ W0 := w0_mk 754 (by decide +kernel) rfl
theorem lq_755 : Cond.selects RX8 yX8_sail yX8_sail ∈ W0 := w0_mk 755 (by decide +kernel) rfl
theorem lq_756 : Cond.code yX8_sail cX8_sail 4 (some .int) ∈ W0 := w0_mk 756 (by decide +kernel) rfl
theorem lq_508 : Cond.methodLink RL 41 yX7_type ∈ W0 := w0_mk 508 (by decide +kernel) rfl
theorem lq_509 : Cond.instanceMethod yX7_type ∈ W0 := w0_mk 509 (by decide +kernel) rfl
theorem lq_510 : Cond.selects RX7 yX7_type yX7_type ∈ W0 := w0_mk 510 (by decide +kernel) rfl
theorem lq_511 : Cond.code yX7_type cX7_type 2 (some .int) ∈ W0 := w0_mk 511 (by decide +kernel) rfl
theorem lq_820 : Cond.methodLink RL 45 yX8_type ∈ W0 := w0_mk 820 (by decide +kernel) rfl
theorem lq_821 : Cond.instanceMethod yX8_type ∈ W0 := w0_mk 821 (by decide +kernel) rfl
theorem lq_822 : Cond.selects RX8 yX8_type yX8_type ∈ W0 := w0_mk 822 (by decide +kernel) rfl
theorem lq_823 : Cond.code yX8_type cX8_type 2 (some .int) ∈ W0 := w0_mk 823 (by decide +kernel) rfl
theorem lq_516 : Cond.methodLink RL 46 yX7_clearText ∈ W0 := w0_mk 516 (by decide +kernel) rfl
theorem lq_517 : Cond.instanceMethod yX7_clearText ∈ W0 := w0_mk 517 (by decide +kernel) rfl
theorem lq_518 : Cond.selects RX7 yX7_clearText yX7_clearText ∈ W0 := w0_mk 518 (by decide +kernel) rfl
theorem lq_519 : Cond.code yX7_clearText cX7_clearText 2 (some .int) ∈ W0 := w0_mk 519 (by decide +kernel) rfl
theorem lq_824 : Cond.methodLink RL 49 yX8_clearText ∈ W0 := w0_mk 824 (by decide +kernel) rfl
theorem lq_825 : Cond.instanceMethod yX8_clearText ∈ W0 := w0_mk 825 (by decide +kernel) rfl
theorem lq_826 : Cond.selects RX8 yX8_clearText yX8_clearText ∈ W0 := w0_mk 826 (by decide +kernel) rfl
theorem lq_827 : Cond.code yX8_clearText cX8_clearText 2 (some .int) ∈ W0 := w0_mk 827 (by decide +kernel) rfl
theorem lq_520 : Cond.methodLink RL 50 yX7_fault ∈ W0 := w0_mk 520 (by decide +kernel) rfl
theorem lq_521 : Cond.instanceMethod yX7_fault ∈ W0 := w0_mk 521 (by decide +kernel) rfl
theorem lq_522 : Cond.selects RX7 yX7_fault yX7_fault ∈ W0 := w0_mk 522 (by decide +kernel) rfl
theorem lq_523 : Cond.code yX7_fault cX7_fault 1 (some .int) ∈ W0 := w0_mk 523 (by decide +kernel) rfl
theorem lq_828 : Cond.methodLink RL 53 yX8_fault ∈ W0 := w0_mk 828 (by decide +kernel) rfl
theorem lq_829 : Cond.instanceMethod yX8_fault ∈ W0 := w0_mk 829 (by decide +kernel) rfl
theorem lq_830 : Cond.selects RX8 yX8_fault yX8_fault ∈ W0 := w0_mk 830 (by decide +kernel) rfl
theorem lq_831 : Cond.code yX8_fault cX8_fault 2 (some .int) ∈ W0 := w0_mk 831 (by decide +kernel) rfl
theorem lq_524 : Cond.methodLink RL 54 yX7_undo ∈ W0 := w0_mk 524 (by decide +kernel) rfl
theorem lq_525 : Cond.instanceMethod yX7_undo ∈ W0 := w0_mk 525 (by decide +kernel) rfl
theorem lq_526 : Cond.selects RX7 yX7_undo yX7_undo ∈ W0 := w0_mk 526 (by decide +kernel) rfl
theorem lq_527 : Cond.code yX7_undo cX7_undo 2 (some .int) ∈ W0 := w0_mk 527 (by decide +kernel) rfl
theorem lq_860 : Cond.methodLink RL 57 yX8_undo ∈ W0 := w0_mk 860 (by decide +kernel) rfl
theorem lq_861 : Cond.instanceMethod yX8_undo ∈ W0 := w0_mk 861 (by decide +kernel) rfl
theorem lq_862 : Cond.selects RX8 yX8_undo yX8_undo ∈ W0 := w0_mk 862 (by decide +kernel) rfl
theorem lq_863 : Cond.code yX8_undo cX8_undo 2 (some .int) ∈ W0 := w0_mk 863 (by decide +kernel) rfl
theorem lq_528 : Cond.methodLink RL 58 yX7_keep ∈ W0 := w0_mk 528 (by decide +kernel) rfl
theorem lq_529 : Cond.instanceMethod yX7_keep ∈ W0 := w0_mk 529 (by decide +kernel) rfl
theorem lq_530 : Cond.selects RX7 yX7_keep yX7_keep ∈ W0 := w0_mk 530 (by decide +kernel) rfl
theorem lq_531 : Cond.code yX7_keep cX7_keep 1 (some .int) ∈ W0 := w0_mk 531 (by decide +kernel) rfl
theorem lq_864 : Cond.methodLink RL 61 yX8_keep ∈ W0 := w0_mk 864 (by decide +kernel) rfl
theorem lq_865 : Cond.instanceMethod yX8_keep ∈ W0 := w0_mk 865 (by decide +kernel) rfl
theorem lq_866 : Cond.selects RX8 yX8_keep yX8_keep ∈ W0 := w0_mk 866 (by decide +kernel) rfl
theorem lq_867 : Cond.code yX8_keep cX8_keep 2 (some .int) ∈ W0 := w0_mk 867 (by decide +kernel) rfl
theorem lq_532 : Cond.methodLink RL 62 yX7_restore ∈ W0 := w0_mk 532 (by decide +kernel) rfl
theorem lq_533 : Cond.instanceMethod yX7_restore ∈ W0 := w0_mk 533 (by decide +kernel) rfl
theorem lq_534 : Cond.selects RX7 yX7_restore yX7_restore ∈ W0 := w0_mk 534 (by decide +kernel) rfl
theorem lq_535 : Cond.code yX7_restore cX7_restore 1 (some .int) ∈ W0 := w0_mk 535 (by decide +kernel) rfl
theorem lq_868 : Cond.methodLink RL 65 yX8_restore ∈ W0 := w0_mk 868 (by decide +kernel) rfl
theorem lq_869 : Cond.instanceMethod yX8_restore ∈ W0 := w0_mk 869 (by decide +kernel) rfl
theorem lq_870 : Cond.selects RX8 yX8_restore yX8_restore ∈ W0 := w0_mk 870 (by decide +kernel) rfl
theorem lq_871 : Cond.code yX8_restore cX8_restore 2 (some .int) ∈ W0 := w0_mk 871 (by decide +kernel) rfl
theorem lq_536 : Cond.methodLink RL 66 yX7_captainOf ∈ W0 := w0_mk 536 (by decide +kernel) rfl
theorem lq_537 : Cond.instanceMethod yX7_captainOf ∈ W0 := w0_mk 537 (by decide +kernel) rfl
theorem lq_538 : Cond.selects RX7 yX7_captainOf yX7_captainOf ∈ W0 := w0_mk 538 (by decide +kernel) rfl
theorem lq_539 : Cond.code yX7_captainOf cX7_captainOf 3 (some .int) ∈ W0 := w0_mk 539 (by decide +kernel) rfl
theorem lq_872 : Cond.methodLink RL 69 yX8_captainOf ∈ W0 := w0_mk 872 (by decide +kernel) rfl
theorem lq_873 : Cond.instanceMethod yX8_captainOf ∈ W0 := w0_mk 873 (by decide +kernel) rfl
theorem lq_874 : Cond.selects RX8 yX8_captainOf yX8_captainOf ∈ W0 := w0_mk 874 (by decide +kernel) rfl
theorem lq_875 : Cond.code yX8_captainOf cX8_captainOf 3 (some .int) ∈ W0 := w0_mk 875 (by decide +kernel) rfl
theorem lq_565 : Cond.methodLink RL 70 yX7_printed ∈ W0 := w0_mk 565 (by decide +kernel) rfl
theorem lq_566 : Cond.instanceMethod yX7_printed ∈ W0 := w0_mk 566 (by decide +kernel) rfl
theorem lq_567 : Cond.selects RX7 yX7_printed yX7_printed ∈ W0 := w0_mk 567 (by decide +kernel) rfl
theorem lq_568 : Cond.code yX7_printed cX7_printed 5 (some .int) ∈ W0 := w0_mk 568 (by decide +kernel) rfl
theorem lq_876 : Cond.methodLink RL 73 yX8_printed ∈ W0 := w0_mk 876 (by decide +kernel) rfl
theorem lq_877 : Cond.instanceMethod yX8_printed ∈ W0 := w0_mk 877 (by decide +kernel) rfl
theorem lq_878 : Cond.selects RX8 yX8_printed yX8_printed ∈ W0 := w0_mk 878 (by decide +kernel) rfl
theorem lq_879 : Cond.code yX8_printed cX8_printed 4 (some .int) ∈ W0 := w0_mk 879 (by decide +kernel) rfl
theorem lq_572 : Cond.methodLink RL 74 yX7_level ∈ W0 := w0_mk 572 (by decide +kernel) rfl
theorem lq_573 : Cond.instanceMethod yX7_level ∈ W0 := w0_mk 573 (by decide +kernel) rfl
theorem lq_574 : Cond.selects RX7 yX7_level yX7_level ∈ W0 := w0_mk 574 (by decide +kernel) rfl
theorem lq_575 : Cond.code yX7_level cX7_level 6 (some .int) ∈ W0 := w0_mk 575 (by decide +kernel) rfl
theorem lq_884 : Cond.methodLink RL 77 yX8_level ∈ W0 := w0_mk 884 (by decide +kernel) rfl
theorem lq_885 : Cond.instanceMethod yX8_level ∈ W0 := w0_mk 885 (by decide +kernel) rfl
theorem lq_886 : Cond.selects RX8 yX8_level yX8_level ∈ W0 := w0_mk 886 (by decide +kernel) rfl
theorem lq_887 : Cond.code yX8_level cX8_level 4 (some .int) ∈ W0 := w0_mk 887 (by decide +kernel) rfl
theorem lq_580 : Cond.methodLink RL 78 yX7_uses ∈ W0 := w0_mk 580 (by decide +kernel) rfl
theorem lq_581 : Cond.instanceMethod yX7_uses ∈ W0 := w0_mk 581 (by decide +kernel) rfl
theorem lq_582 : Cond.selects RX7 yX7_uses yX7_uses ∈ W0 := w0_mk 582 (by decide +kernel) rfl
theorem lq_583 : Cond.code yX7_uses cX7_uses 3 (some .int) ∈ W0 := w0_mk 583 (by decide +kernel) rfl
theorem lq_888 : Cond.methodLink RL 81 yX8_uses ∈ W0 := w0_mk 888 (by decide +kernel) rfl
theorem lq_889 : Cond.instanceMethod yX8_uses ∈ W0 := w0_mk 889 (by decide +kernel) rfl
theorem lq_890 : Cond.selects RX8 yX8_uses yX8_uses ∈ W0 := w0_mk 890 (by decide +kernel) rfl
theorem lq_891 : Cond.code yX8_uses cX8_uses 3 (some .int) ∈ W0 := w0_mk 891 (by decide +kernel) rfl
theorem lq_589 : Cond.methodLink RL 82 yX7_clash ∈ W0 := w0_mk 589 (by decide +kernel) rfl
theorem lq_590 : Cond.instanceMethod yX7_clash ∈ W0 := w0_mk 590 (by decide +kernel) rfl
theorem lq_591 : Cond.selects RX7 yX7_clash yX7_clash ∈ W0 := w0_mk 591 (by decide +kernel) rfl
theorem lq_592 : Cond.code yX7_clash cX7_clash 4 (some .int) ∈ W0 := w0_mk 592 (by decide +kernel) rfl
theorem lq_900 : Cond.methodLink RL 85 yX8_clash ∈ W0 := w0_mk 900 (by decide +kernel) rfl
theorem lq_901 : Cond.instanceMethod yX8_clash ∈ W0 := w0_mk 901 (by decide +kernel) rfl
theorem lq_902 : Cond.selects RX8 yX8_clash yX8_clash ∈ W0 := w0_mk 902 (by decide +kernel) rfl
theorem lq_903 : Cond.code yX8_clash cX8_clash 6 (some .int) ∈ W0 := w0_mk 903 (by decide +kernel) rfl
theorem lq_608 : Cond.methodLink RL 86 yX7_hours ∈ W0 := w0_mk 608 (by decide +kernel) rfl
theorem lq_609 : Cond.instanceMethod yX7_hours ∈ W0 := w0_mk 609 (by decide +kernel) rfl
theorem lq_610 : Cond.selects RX7 yX7_hours yX7_hours ∈ W0 := w0_mk 610 (by decide +kernel) rfl
theorem lq_611 : Cond.code yX7_hours cX7_hours 6 (some .int) ∈ W0 := w0_mk 611 (by decide +kernel) rfl
theorem lq_904 : Cond.methodLink RL 89 yX8_hours ∈ W0 := w0_mk 904 (by decide +kernel) rfl
theorem lq_905 : Cond.instanceMethod yX8_hours ∈ W0 := w0_mk 905 (by decide +kernel) rfl
theorem lq_906 : Cond.selects RX8 yX8_hours yX8_hours ∈ W0 := w0_mk 906 (by decide +kernel) rfl
theorem lq_907 : Cond.code yX8_hours cX8_hours 6 (some .int) ∈ W0 := w0_mk 907 (by decide +kernel) rfl
theorem lq_615 : Cond.methodLink RL 90 yX7_count ∈ W0 := w0_mk 615 (by decide +kernel) rfl
theorem lq_616 : Cond.instanceMethod yX7_count ∈ W0 := w0_mk 616 (by decide +kernel) rfl
theorem lq_617 : Cond.selects RX7 yX7_count yX7_count ∈ W0 := w0_mk 617 (by decide +kernel) rfl
theorem lq_618 : Cond.code yX7_count cX7_count 2 (some .int) ∈ W0 := w0_mk 618 (by decide +kernel) rfl
theorem lq_908 : Cond.methodLink RL 93 yX8_count ∈ W0 := w0_mk 908 (by decide +kernel) rfl
theorem lq_909 : Cond.instanceMethod yX8_count ∈ W0 := w0_mk 909 (by decide +kernel) rfl
theorem lq_910 : Cond.selects RX8 yX8_count yX8_count ∈ W0 := w0_mk 910 (by decide +kernel) rfl
theorem lq_911 : Cond.code yX8_count cX8_count 2 (some .int) ∈ W0 := w0_mk 911 (by decide +kernel) rfl
theorem lq_632 : Cond.methodLink RL 94 yX7_made ∈ W0 := w0_mk 632 (by decide +kernel) rfl
theorem lq_633 : Cond.instanceMethod yX7_made ∈ W0 := w0_mk 633 (by decide +kernel) rfl
theorem lq_634 : Cond.selects RX7 yX7_made yX7_made ∈ W0 := w0_mk 634 (by decide +kernel) rfl
theorem lq_635 : Cond.code yX7_made cX7_made 3 (some .float) ∈ W0 := w0_mk 635 (by decide +kernel) rfl
theorem lq_916 : Cond.methodLink RL 98 yX8_made ∈ W0 := w0_mk 916 (by decide +kernel) rfl
theorem lq_917 : Cond.instanceMethod yX8_made ∈ W0 := w0_mk 917 (by decide +kernel) rfl
theorem lq_918 : Cond.selects RX8 yX8_made yX8_made ∈ W0 := w0_mk 918 (by decide +kernel) rfl
theorem lq_919 : Cond.code yX8_made cX8_made 2 (some .float) ∈ W0 := w0_mk 919 (by decide +kernel) rfl
theorem lq_636 : Cond.methodLink RL 99 yX7_ifSailed ∈ W0 := w0_mk 636 (by decide +kernel) rfl
theorem lq_637 : Cond.instanceMethod yX7_ifSailed ∈ W0 := w0_mk 637 (by decide +kernel) rfl
theorem lq_638 : Cond.selects RX7 yX7_ifSailed yX7_ifSailed ∈ W0 := w0_mk 638 (by decide +kernel) rfl
theorem lq_639 : Cond.code yX7_ifSailed cX7_ifSailed 2 (some .int) ∈ W0 := w0_mk 639 (by decide +kernel) rfl
theorem lq_920 : Cond.methodLink RL 102 yX8_ifSailed ∈ W0 := w0_mk 920 (by decide +kernel) rfl
theorem lq_921 : Cond.instanceMethod yX8_ifSailed ∈ W0 := w0_mk 921 (by decide +kernel) rfl
theorem lq_922 : Cond.selects RX8 yX8_ifSailed yX8_ifSailed ∈ W0 := w0_mk 922 (by decide +kernel) rfl
theorem lq_923 : Cond.code yX8_ifSailed cX8_ifSailed 4 (some .int) ∈ W0 := w0_mk 923 (by decide +kernel) rfl
theorem lq_645 : Cond.methodLink RL 103 yX7_bestHour ∈ W0 := w0_mk 645 (by decide +kernel) rfl
theorem lq_646 : Cond.instanceMethod yX7_bestHour ∈ W0 := w0_mk 646 (by decide +kernel) rfl
theorem lq_647 : Cond.selects RX7 yX7_bestHour yX7_bestHour ∈ W0 := w0_mk 647 (by decide +kernel) rfl
theorem lq_648 : Cond.code yX7_bestHour cX7_bestHour 8 (some .int) ∈ W0 := w0_mk 648 (by decide +kernel) rfl
theorem lq_936 : Cond.methodLink RL 106 yX8_bestHour ∈ W0 := w0_mk 936 (by decide +kernel) rfl
theorem lq_937 : Cond.instanceMethod yX8_bestHour ∈ W0 := w0_mk 937 (by decide +kernel) rfl
theorem lq_938 : Cond.selects RX8 yX8_bestHour yX8_bestHour ∈ W0 := w0_mk 938 (by decide +kernel) rfl
theorem lq_939 : Cond.code yX8_bestHour cX8_bestHour 8 (some .int) ∈ W0 := w0_mk 939 (by decide +kernel) rfl
theorem lq_649 : Cond.methodLink RL 107 yX7_bestPhase ∈ W0 := w0_mk 649 (by decide +kernel) rfl
theorem lq_650 : Cond.instanceMethod yX7_bestPhase ∈ W0 := w0_mk 650 (by decide +kernel) rfl
theorem lq_651 : Cond.selects RX7 yX7_bestPhase yX7_bestPhase ∈ W0 := w0_mk 651 (by decide +kernel) rfl
theorem lq_652 : Cond.code yX7_bestPhase cX7_bestPhase 6 (some .int) ∈ W0 := w0_mk 652 (by decide +kernel) rfl
theorem lq_940 : Cond.methodLink RL 110 yX8_bestPhase ∈ W0 := w0_mk 940 (by decide +kernel) rfl
theorem lq_941 : Cond.instanceMethod yX8_bestPhase ∈ W0 := w0_mk 941 (by decide +kernel) rfl
theorem lq_942 : Cond.selects RX8 yX8_bestPhase yX8_bestPhase ∈ W0 := w0_mk 942 (by decide +kernel) rfl
theorem lq_943 : Cond.code yX8_bestPhase cX8_bestPhase 7 (some .int) ∈ W0 := w0_mk 943 (by decide +kernel) rfl
theorem lq_56 : Cond.classLink RL 7 RX7 ∈ W0 := w0_mk 56 (by decide +kernel) rfl
theorem lq_57 : Cond.instantiable RX7 9 ∈ W0 := w0_mk 57 (by decide +kernel) rfl
theorem lq_58 : Cond.methodLink RL 9 yX7_init ∈ W0 := w0_mk 58 (by decide +kernel) rfl
theorem lq_59 : Cond.instanceMethod yX7_init ∈ W0 := w0_mk 59 (by decide +kernel) rfl
theorem lq_60 : Cond.code yX7_init cX7_init 1 none ∈ W0 := w0_mk 60 (by decide +kernel) rfl
theorem lq_653 : Cond.classLink RL 10 RX8 ∈ W0 := w0_mk 653 (by decide +kernel) rfl
theorem lq_654 : Cond.instantiable RX8 16 ∈ W0 := w0_mk 654 (by decide +kernel) rfl
theorem lq_655 : Cond.methodLink RL 12 yX8_init ∈ W0 := w0_mk 655 (by decide +kernel) rfl
theorem lq_656 : Cond.instanceMethod yX8_init ∈ W0 := w0_mk 656 (by decide +kernel) rfl
theorem lq_657 : Cond.code yX8_init cX8_init 2 none ∈ W0 := w0_mk 657 (by decide +kernel) rfl
/-! THE CLAIM OUT OF ONE WALK OF THE LAW'S BODY. Your part is whole_start (and what it stands on); all else here is the same for every law, but numbers. -/
def R_law : String := "CaptainTidesLaw"
def lw_P (b : Addr) (xs : List Int32) (args : Array Value) (s : State) : Prop := args = #[.ref b] ∧ s.IntsAt b xs ∧ xs.length ≤ 2048 ∧ (Jvm.Cond.and given_1 narrow_1).before args s = true
/-- what a walk over the start with the record d0 says of its end, said of the start itself -/
theorem lw_closed {s t : State} {o : Outcome} {d0 : Drawn} {L : List Loc} {k n : Nat} (hd0 : s.drawn.sameBut d0 lw_cs) (hv : ∃ v, o = .returned v) (hW : (s.setDrawn d0).WarmedH t.vm) (hs : (s.setDrawn d0).sameButNew ({ t with vm := s.vm } : State) L k n) : State.butDraws s t lw_cs (fun t1 => Framed s o t1 L k n) := by
  have h2 : t.drawn = d0 := congrArg State.drawn hs.1
  refine ⟨⟨hv, hW, State.sameButNew.setDrawn hs s.drawn⟩, ?_, by decide⟩
  rw [h2]
  exact hd0
def lw_Q (_ : Array Value) (s : State) (o : Outcome) (t : State) : Prop := o = .returned (some (.int 1)) ∧ State.butDraws s t lw_cs (fun t1 => Framed s o t1 [] 71 885)
def lw_Z (below : List Frame) (a : Array Value) (s : State) : State → Prop := fun t => ∃ o, t.status = .running ∧ Ended t below o ∧ lw_Q a s o t
/-- the law's own end, with 1 on the stack, nothing written that was there before, its room as the claim has it; d0: the record of draws at this point (at the entry s.drawn: begin with 'refine W.base ?_' and 'have hd0 := Drawn.sameBut.refl s.drawn lw_cs') -/
theorem lw_ret {p : Program} {l : Launch} {e : Env} {s : State} {m : MethodId} {below : List Frame} {meth : Method} {c : Code} {b : Nat} {d0 : Drawn} (hd0 : s.drawn.sameBut d0 lw_cs) (hx : p.tables.exec = Jvm.exec) (hb : c.code = code) (hr : meth.sig.returnType = ret) (hlocks : meth.locks = false) {pc : Nat} {H : Heap} {ls : Array Slot} (hdg : decode code pc = .ok (.ireturn, 1)) : W p l e room_1 (s.setDrawn d0) m #[Value.ref b] below meth c H [] 71 885 (lw_Z below #[Value.ref b] s) (F0 m pc ls [.int 1]) := by
  intro T hT X
  obtain ⟨fs, hret, hrun, hended, hW, hframe⟩ := X.leave (v := some (.int 1)) (hlocks := hlocks) (fun h => by rw [hr] at h; cases h)
  have hmeth' : T.vm.method? m = some meth := X.method'
  refine ⟨T.setFrames fs, ?_, .returned (some (.int 1)), hrun, hended, rfl, lw_closed hd0 ⟨_, rfl⟩ hW hframe⟩
  jvm_step X.here [X.here.top, hx, hb, hdg, hmeth', hr, ret, narrow_b1]
  (try refine ⟨rfl, ?_⟩); (try refine ⟨rfl, ?_⟩)
  first | (intro acts; rw [hret _ acts rfl rfl rfl]) | rw [hret _ _ rfl rfl rfl]
  exact Steps.refl _
/-- what holds at the law's entry: the machine, the code, the tables' words (any of lw_tbl by 'hts w (by decide +kernel)'), the script of L ints xs at the cell b, what the Statement gives of the start (any of its parts by flat_of_before) -/
def lw_At (p : Program) (s : State) (m : MethodId) (meth : Method) (c : Code) (b L : Nat) (xs : Nat → Int32) : Prop :=
  p.tables.exec = Jvm.exec ∧ c.code = code ∧ meth.sig.returnType = ret ∧ c.maxLocals = 8 ∧ s.vm.findClass R_law = some m.cls ∧ (∀ w ∈ lw_tbl, w.before #[Value.ref b] s = true) ∧ va_X b L xs s s.heap ∧ b < s.heap.size ∧ meth.locks = false ∧ (Jvm.Cond.and given_1 narrow_1).before #[Value.ref b] s = true

/-! THE LAW: two worlds side by side -/
theorem fnan_of {r : UInt32} (h : vf_n32 r) : FP.Core.fIsNaN r = false := by
  cases hn : FP.Core.fIsNaN r with
  | false => rfl
  | true =>
    have h1 := (FP.Core.isNaN_bits32 r).mp hn
    have h2 : r &&& 0x7fffffff ≤ 0x7f800000 := h
    rw [UInt32.le_iff_toNat_le, UInt32.toNat_and] at h2
    have h3 : r.toNat &&& (0x7fffffff : UInt32).toNat = r.toNat % 2 ^ 31 := by
      show _ &&& (2 ^ 31 - 1) = _
      exact Nat.and_two_pow_sub_one_eq_mod _ _
    rw [h3] at h2
    exact absurd h2 (Nat.not_le.mpr h1)
theorem f2dnan_of {r : UInt32} (h : vf_n32 r) : FP.Core.dIsNaN (FP.f2d r) = false := by
  have h1 : FP.Core.dIsNaN (FP.f2d r) = FP.Core.fIsNaN r := FP.f2d_nan r
  rw [h1]
  exact fnan_of h
theorem f2d_n64 {r : UInt32} (h : vf_n32 r) : vf_n64 (FP.f2d r) := by
  have h1 := f2dnan_of h
  have h2 : ¬ 9218868437227405312 < (FP.f2d r).toNat % 2 ^ 63 := fun z => by
    rw [(FP.Core.isNaN_bits _).mpr z] at h1
    cases h1
  show FP.f2d r &&& 0x7fffffffffffffff ≤ 0x7ff0000000000000
  rw [UInt64.le_iff_toNat_le, UInt64.toNat_and]
  have h3 : (FP.f2d r).toNat &&& (0x7fffffffffffffff : UInt64).toNat = (FP.f2d r).toNat % 2 ^ 63 := by
    show _ &&& (2 ^ 63 - 1) = _
    exact Nat.and_two_pow_sub_one_eq_mod _ _
  rw [h3]
  exact Nat.not_lt.mp h2
theorem dcmp_0 {r : UInt32} (h : vf_n32 r) : Op.cmpValue (FP.dcmp (FP.f2d r) (FP.f2d r)) CmpOp.l = 0 := by
  have h1 : FP.dcmp (FP.f2d r) (FP.f2d r) = some .eq := FP.Core.dcmp_self ((FP.Core.notNaN_iff _).mp (f2dnan_of h))
  rw [h1]
  rfl
/-- a table at the start, that nobody may write -/
def tabG (A : Nat → Prop) (C nm : String) (t N : Nat) (f : Nat → Int32) (U : State) (H : Heap) : Prop := va_Z C nm "[I" (.ref t) A U H ∧ va_T .int t N (fun j => .int (f j)) A U H
def lawG (D : va_G) (ids : Nat → ClassId) (adC adM tt : Nat → Nat) (b L : Nat) (xs : Nat → Int32) (s : State) : Prop :=
  adOk adC 59 ∧ adOk adM 12 ∧ ((∀ q, inW adC 59 q → s.heap.size ≤ q) ∧ (∀ q, inW adM 12 q → s.heap.size ≤ q)) ∧ (∀ q, inW adC 59 q → ¬ inW adM 12 q) ∧ va_X b L xs (s.setDrawn s.drawn) s.heap ∧ b < s.heap.size ∧ nestT s ∧
  tabG (fun q : Nat => s.heap.size ≤ q) RX7 "LEAST_OF_CAPTAIN" (tt 0) 4 sL0 s s.heap ∧ tabG (fun q : Nat => s.heap.size ≤ q) RX7 "GREATEST_OF_CAPTAIN" (tt 1) 4 sG0 s s.heap ∧ tabG (fun q : Nat => s.heap.size ≤ q) RX7 "LEAST_OF_SETTING" (tt 2) 2 sL1 s s.heap ∧ tabG (fun q : Nat => s.heap.size ≤ q) RX7 "GREATEST_OF_SETTING" (tt 3) 2 sG1 s s.heap
theorem tabG_at {ad : Nat → Nat} {s U : State} {H : Heap} {locs : List Loc} {C nm : String} {t N : Nat} {f : Nat → Int32} (hA : ∀ q, inW ad 59 q → s.heap.size ≤ q) (hS : va_S (fun q : Nat => s.heap.size ≤ q) s.heap H locs) (hW : s.vm.Alike U.vm) (h : tabG (fun q : Nat => s.heap.size ≤ q) C nm t N f s s.heap) : tabT ad C nm t N f U H :=
  ⟨(((h.1.kept hS.2.1).narrow hA).moved hW), (((h.2.kept hS.2.1).narrow hA).moved hW)⟩
theorem nest_w {s U : State} (hW : s.WarmedH U.vm) (h : nestT s) : nestT U := by
  obtain ⟨n0, n1, n2, n3⟩ := h
  exact ⟨va_Nw.warmM hW n0, va_Nw.warmM hW n1, va_Nw.warmM hW n2, va_Nw.warmM hW n3⟩
theorem lawEx {D : va_G} {ids : Nat → ClassId} {adC adM tt : Nat → Nat} {b L : Nat} {xs : Nat → Int32} {s : State} {H : Heap} {locs : List Loc} (G : lawG D ids adC adM tt b L xs s) (hS : va_S (fun q : Nat => s.heap.size ≤ q) s.heap H locs) : ∀ U : State, U.heap = H → (s.setDrawn s.drawn).WarmedH U.vm → ExC tt adC U U.heap := by
  obtain ⟨hAC, hAM, ⟨hgC, hgM⟩, hdis, hX, hbl, hN, t0, t1, t2, t3⟩ := G
  intro U hU hW
  rw [hU]
  have hW' : s.WarmedH U.vm := hW
  have hA : s.vm.Alike U.vm := hW.alike
  exact ⟨nest_w hW' hN, tabG_at hgC hS hA t0, tabG_at hgC hS hA t1, tabG_at hgC hS hA t2, tabG_at hgC hS hA t3⟩
theorem wp_keep {D : va_G} {cE : Nat → (Nat → Int32) → va_E} {ad : Nat → Nat} {n : Nat} {h : Hp} {H H1 : Heap} {A : Nat → Prop} (hP : wp D cE ad n h H) (hd : ∀ q, inW ad n q → ¬ A q) (hk : ∀ q : Nat, q < H.size → ¬ A q → H1[q]? = H[q]?) : wp D cE ad n h H1 := by
  refine va_P.kept hP (fun k q hq => ?_)
  have hlt := (hP k q hq).lt
  obtain ⟨hkn, rfl⟩ := wl_inv hq
  exact hk _ hlt (hd _ ⟨k, hkn, rfl⟩)
theorem law_keepM {D : va_G} {ids : Nat → ClassId} {adC adM tt : Nat → Nat} {b L : Nat} {xs : Nat → Int32} {s : State} {H H1 : Heap} {hm : Hp} (G : lawG D ids adC adM tt b L xs s) (hP : wp D (cEM ids adM) adM 12 hm H) (hk : ∀ q : Nat, q < H.size → ¬ inW adC 59 q → H1[q]? = H[q]?) : wp D (cEM ids adM) adM 12 hm H1 := wp_keep hP (fun q h1 h2 => G.2.2.2.1 q h2 h1) hk
theorem law_keepC {D : va_G} {ids : Nat → ClassId} {adC adM tt : Nat → Nat} {b L : Nat} {xs : Nat → Int32} {s : State} {H H1 : Heap} {h : Hp} (G : lawG D ids adC adM tt b L xs s) (hP : wp D (cEC ids adC) adC 59 h H) (hk : ∀ q : Nat, q < H.size → ¬ inW adM 12 q → H1[q]? = H[q]?) : wp D (cEC ids adC) adC 59 h H1 := wp_keep hP G.2.2.2.1 hk
theorem law_in {i k L : Nat} (hL : L ≤ 2048) (hi : i + 4 ≤ L) (hk : k < 4) : vp_in (nI i + nI k) L := by
  rw [nI_add]
  exact vp_in_nI (by omega) (by omega)
theorem law_cmp {i L : Nat} (hi : i ≤ 3000) (hL : L ≤ 2048) : nI L - (4 : Int32) < nI i ↔ L < i + 4 := by
  rw [Int32.lt_iff_toInt_lt, show (4 : Int32) = nI 4 from rfl, pk_sub_toInt (by omega) (by decide), nI_toInt (by omega)]
  omega
section KF
variable {p : Program} {l : Launch} {e : Env} {R : Room} {s : State} {m : MethodId} {args : Array Value} {below : List Frame} {meth : Method} {c : Code} {H : Heap} {locs : List Loc} {cells slots : Nat} {Q : State → Prop}
variable {cc : ByteArray} {nL : Nat} {ret : Option FieldType} {own : String} {pc : Nat} {ls : Array Slot} {rest st0 : List Value} {D : va_G} {ids : Nat → ClassId} {A : Nat → Prop}
theorem kp_backF {a : Array Value} {ws : va_W} {G : (Nat → Nat) → va_W} {mc ms : Nat} (hr : va_Run p l e R s m args below meth c H locs cells slots mc ms (F0 m pc ls st0) rest (KQ D G (va_A ws H.size) a) (va_A ws H.size)) (hD : va_D A ws) (hS : va_S A s.heap H locs) (hA : ∀ q : Nat, s.heap.size ≤ q → A q)
    (kk : ∀ (u : Nat → Nat) (H1 : Heap) (locs1 : List Loc), va_P D vwCl (G u) H1 → va_D (va_A ws H.size) (G u) → (∀ q : Nat, q < H.size → ¬ va_A ws H.size q → H1[q]? = H[q]?) → va_S A s.heap H1 locs1 → W p l e R s m args below meth c H1 locs1 (cells + mc) (slots + ms) Q (F0 m (pc + 3) ls rest)) : W p l e R s m args below meth c H locs cells slots Q (F0 m pc ls st0) := by
  have hF : ∀ q : Nat, va_A ws H.size q → A q := fun q hq => hq.elim (fun ⟨k, e, he⟩ => hD.2 k (q, e) he) (fun z => hA q (Nat.le_trans hS.1 z))
  intro T hT X
  obtain ⟨v, st₀, t, T', Lo, h0, X', hL, e1, e2, ⟨hv, ⟨u, hp, hd⟩, hz, hk⟩, st⟩ := hr T hT X
  cases hv
  rw [h0] at hz hk
  obtain ⟨t2, a1, b1⟩ := kk u T'.heap (locs ++ Lo) (by rw [e1]; exact hp) hd (fun q g1 g2 => by rw [e1]; exact hk q g1 g2)
    ⟨Nat.le_trans hS.1 (by rw [e1]; exact hz), fun q g1 g2 => by rw [e1, hk q (Nat.lt_of_lt_of_le g1 hS.1) (fun z => g2 (hF q z))]; exact hS.2.1 q g1 g2, fun q hq => by
      rcases List.mem_append.mp hq with g | g
      · exact hS.2.2 q g
      · exact hF _ (hL q g)⟩ T' rfl X'
  exact ⟨t2, st t2 a1, b1⟩
theorem kp_callF {y : MethodName} {bytes : ByteArray} {maxL index b : Nat} {rm : Room} {As : List Value} {ws : va_W} {G : (Nat → Nat) → va_W} {mc ms : Nat} (C : CX p s m args meth c cc nL ret own D ids) (hX : NX s)
    (hM : Met l y (ws_ y bytes maxL none) rm (va_Pc (.ref b :: As) (KB D ids ws H.size)) (KQ D G (va_A ws H.size)) mc ms (va_A ws H.size))
    (q1 : Cond.methodLink own index y ∈ W0) (q2 : Cond.instanceMethod y ∈ W0) (q4 : Cond.initialized y.cls ∈ W0) (q5 : Cond.code y bytes maxL none ∈ W0) (hy : y.name = "<init>")
    (hrm : rm.cells = mc ∧ rm.slots = ms) (hd : y.cls ≠ "java/lang/invoke/MethodHandle" ∧ y.cls ≠ "java/lang/invoke/VarHandle" ∧ (parseMethodDescriptor y.desc).map (fun d => d.parameters.length) = some As.length) (hR : rm.frames + 1 ≤ R.frames ∧ 8 + (maxL + 11) + rm.locals ≤ R.locals) (hcs : cells + mc ≤ R.cells ∧ slots + ms ≤ R.slots)
    (hP : va_P D vwCl ws H) (hD : va_D A ws) (hS : va_S A s.heap H locs) (hA : ∀ q : Nat, s.heap.size ≤ q → A q) (hsz : ls.size = nL) (hcat : (rest.map fun v => v.category).sum ≤ 8) (hst : st0 = As.reverse ++ .ref b :: rest) (hdg : decode cc pc = .ok (.invokespecial index, 3))
    (kk : ∀ (u : Nat → Nat) (H1 : Heap) (locs1 : List Loc), va_P D vwCl (G u) H1 → va_D (va_A ws H.size) (G u) → (∀ q : Nat, q < H.size → ¬ va_A ws H.size q → H1[q]? = H[q]?) → va_S A s.heap H1 locs1 → W p l e R s m args below meth c H1 locs1 (cells + mc) (slots + ms) Q (F0 m (pc + 3) ls rest)) : W p l e R s m args below meth c H locs cells slots Q (F0 m pc ls st0) := by
  have C0 := C
  obtain ⟨hx, hb, hml, hr, hlocks, hown, hts, hK⟩ := C
  refine kp_backF (va_runI (b := b) (As := As) (rest := rest) (n := As.length) ⟨hx, hb, hml, hown, hts⟩ hM ⟨callB_of As.length hts (ws_in q5 (fun _ z => z)) rfl hrm.1 hrm.2 (hts _ q4) (hts _ q1) hd hR, hy, hts _ q2⟩ ⟨KB_blind, KB_pre C0 hX hP hD⟩ rfl rfl hsz hst (lv_room hcat) hdg hcs) hD hS hA kk
end KF
theorem va_P_l {D : va_G} {cl : List vw_C} {w1 w2 : va_W} {H : Heap} (h : va_P D cl (w1 ++ w2) H) : va_P D cl w1 H := fun k q hk => h k q (by rw [List.getElem?_append_left (List.getElem?_eq_some_iff.mp hk).1]; exact hk)
theorem va_P_r {D : va_G} {cl : List vw_C} {w1 w2 : va_W} {H : Heap} (h : va_P D cl (w1 ++ w2) H) : va_P D cl w2 H := fun k q hk => h (w1.length + k) q (pfx_get hk)
theorem va_D_r {A : Nat → Prop} {w1 w2 : va_W} (h : va_D A (w1 ++ w2)) : va_D A w2 := ⟨fun i j x y hi hj e => by
  have := h.1 (w1.length + i) (w1.length + j) x y (pfx_get hi) (pfx_get hj) e
  omega, fun k q hk => h.2 (w1.length + k) q (pfx_get hk)⟩
theorem va_D_x {A : Nat → Prop} {w1 w2 : va_W} (h : va_D A (w1 ++ w2)) {i j : Nat} {x y : Nat × va_E} (hi : w1[i]? = some x) (hj : w2[j]? = some y) : x.1 ≠ y.1 := fun e => by
  have hl := (List.getElem?_eq_some_iff.mp hi).1
  have := h.1 i (w1.length + j) x y (by rw [List.getElem?_append_left hl]; exact hi) (pfx_get hj) e
  omega

