theorem w_500 : Cond.selects "SlabImageModel" my_166 my_166 ∈ am_ws := am_in 43 (by decide +kernel) (by decide +kernel)
theorem w_501 : Cond.classLink "SlabImageLaw" 7 "SlabImage" ∈ am_ws := am_in 53 (by decide +kernel) (by decide +kernel)
theorem w_502 : Cond.instantiable "SlabImage" 8 ∈ am_ws := am_in 54 (by decide +kernel) (by decide +kernel)
theorem w_503 : Cond.initialized "SlabImage" ∈ am_ws := am_in 45 (by decide +kernel) (by decide +kernel)
theorem w_504 : Cond.classLink "SlabImageLaw" 10 "SlabImageModel" ∈ am_ws := am_in 638 (by decide +kernel) (by decide +kernel)
theorem w_505 : Cond.instantiable "SlabImageModel" 26 ∈ am_ws := am_in 639 (by decide +kernel) (by decide +kernel)
theorem w_506 : Cond.initialized "SlabImageModel" ∈ am_ws := am_in 51 (by decide +kernel) (by decide +kernel)
theorem w_507 : Cond.methodLink "SlabImageLaw" 12 my_101 ∈ am_ws := am_in 640 (by decide +kernel) (by decide +kernel)
theorem w_508 : Cond.instanceMethod my_101 ∈ am_ws := am_in 641 (by decide +kernel) (by decide +kernel)
theorem w_509 : Cond.methodLink "SlabImageLaw" 9 my_0 ∈ am_ws := am_in 55 (by decide +kernel) (by decide +kernel)
theorem w_510 : Cond.instanceMethod my_0 ∈ am_ws := am_in 56 (by decide +kernel) (by decide +kernel)
theorem w_511 : Cond.methodLink "SlabImageLaw" 17 my_102 ∈ am_ws := am_in 723 (by decide +kernel) (by decide +kernel)
theorem w_512 : Cond.instanceMethod my_102 ∈ am_ws := am_in 724 (by decide +kernel) (by decide +kernel)
theorem w_513 : Cond.selects "SlabImageModel" my_102 my_102 ∈ am_ws := am_in 725 (by decide +kernel) (by decide +kernel)
theorem w_514 : Cond.methodLink "SlabImageLaw" 13 my_6 ∈ am_ws := am_in 219 (by decide +kernel) (by decide +kernel)
theorem w_515 : Cond.instanceMethod my_6 ∈ am_ws := am_in 220 (by decide +kernel) (by decide +kernel)
theorem w_516 : Cond.selects "SlabImage" my_6 my_6 ∈ am_ws := am_in 221 (by decide +kernel) (by decide +kernel)
theorem w_517 : Cond.methodLink "SlabImageLaw" 22 my_106 ∈ am_ws := am_in 738 (by decide +kernel) (by decide +kernel)
theorem w_518 : Cond.instanceMethod my_106 ∈ am_ws := am_in 739 (by decide +kernel) (by decide +kernel)
theorem w_519 : Cond.selects "SlabImageModel" my_106 my_106 ∈ am_ws := am_in 740 (by decide +kernel) (by decide +kernel)
theorem w_520 : Cond.methodLink "SlabImageLaw" 18 my_11 ∈ am_ws := am_in 237 (by decide +kernel) (by decide +kernel)
theorem w_521 : Cond.instanceMethod my_11 ∈ am_ws := am_in 238 (by decide +kernel) (by decide +kernel)
theorem w_522 : Cond.selects "SlabImage" my_11 my_11 ∈ am_ws := am_in 239 (by decide +kernel) (by decide +kernel)
theorem w_523 : Cond.methodLink "SlabImageLaw" 27 my_111 ∈ am_ws := am_in 758 (by decide +kernel) (by decide +kernel)
theorem w_524 : Cond.instanceMethod my_111 ∈ am_ws := am_in 759 (by decide +kernel) (by decide +kernel)
theorem w_525 : Cond.selects "SlabImageModel" my_111 my_111 ∈ am_ws := am_in 760 (by decide +kernel) (by decide +kernel)
theorem w_526 : Cond.methodLink "SlabImageLaw" 23 my_20 ∈ am_ws := am_in 273 (by decide +kernel) (by decide +kernel)
theorem w_527 : Cond.instanceMethod my_20 ∈ am_ws := am_in 274 (by decide +kernel) (by decide +kernel)
theorem w_528 : Cond.selects "SlabImage" my_20 my_20 ∈ am_ws := am_in 275 (by decide +kernel) (by decide +kernel)
theorem w_529 : Cond.methodLink "SlabImageLaw" 31 my_115 ∈ am_ws := am_in 773 (by decide +kernel) (by decide +kernel)
theorem w_530 : Cond.instanceMethod my_115 ∈ am_ws := am_in 774 (by decide +kernel) (by decide +kernel)
theorem w_531 : Cond.selects "SlabImageModel" my_115 my_115 ∈ am_ws := am_in 775 (by decide +kernel) (by decide +kernel)
theorem w_532 : Cond.methodLink "SlabImageLaw" 28 my_25 ∈ am_ws := am_in 299 (by decide +kernel) (by decide +kernel)
theorem w_533 : Cond.instanceMethod my_25 ∈ am_ws := am_in 300 (by decide +kernel) (by decide +kernel)
theorem w_534 : Cond.selects "SlabImage" my_25 my_25 ∈ am_ws := am_in 301 (by decide +kernel) (by decide +kernel)
theorem w_535 : Cond.methodLink "SlabImageLaw" 41 my_117 ∈ am_ws := am_in 781 (by decide +kernel) (by decide +kernel)
theorem w_536 : Cond.instanceMethod my_117 ∈ am_ws := am_in 782 (by decide +kernel) (by decide +kernel)
theorem w_537 : Cond.selects "SlabImageModel" my_117 my_117 ∈ am_ws := am_in 783 (by decide +kernel) (by decide +kernel)
theorem w_538 : Cond.methodLink "SlabImageLaw" 37 my_31 ∈ am_ws := am_in 322 (by decide +kernel) (by decide +kernel)
theorem w_539 : Cond.instanceMethod my_31 ∈ am_ws := am_in 323 (by decide +kernel) (by decide +kernel)
theorem w_540 : Cond.selects "SlabImage" my_31 my_31 ∈ am_ws := am_in 324 (by decide +kernel) (by decide +kernel)
theorem w_541 : Cond.methodLink "SlabImageLaw" 45 my_129 ∈ am_ws := am_in 829 (by decide +kernel) (by decide +kernel)
theorem w_542 : Cond.instanceMethod my_129 ∈ am_ws := am_in 830 (by decide +kernel) (by decide +kernel)
theorem w_543 : Cond.selects "SlabImageModel" my_129 my_129 ∈ am_ws := am_in 831 (by decide +kernel) (by decide +kernel)
theorem w_544 : Cond.methodLink "SlabImageLaw" 42 my_43 ∈ am_ws := am_in 376 (by decide +kernel) (by decide +kernel)
theorem w_545 : Cond.instanceMethod my_43 ∈ am_ws := am_in 377 (by decide +kernel) (by decide +kernel)
theorem w_546 : Cond.selects "SlabImage" my_43 my_43 ∈ am_ws := am_in 378 (by decide +kernel) (by decide +kernel)
theorem w_547 : Cond.methodLink "SlabImageLaw" 49 my_130 ∈ am_ws := am_in 833 (by decide +kernel) (by decide +kernel)
theorem w_548 : Cond.instanceMethod my_130 ∈ am_ws := am_in 834 (by decide +kernel) (by decide +kernel)
theorem w_549 : Cond.selects "SlabImageModel" my_130 my_130 ∈ am_ws := am_in 835 (by decide +kernel) (by decide +kernel)
theorem w_550 : Cond.methodLink "SlabImageLaw" 46 my_44 ∈ am_ws := am_in 380 (by decide +kernel) (by decide +kernel)
theorem w_551 : Cond.instanceMethod my_44 ∈ am_ws := am_in 381 (by decide +kernel) (by decide +kernel)
theorem w_552 : Cond.selects "SlabImage" my_44 my_44 ∈ am_ws := am_in 382 (by decide +kernel) (by decide +kernel)
theorem w_553 : Cond.methodLink "SlabImageLaw" 54 my_134 ∈ am_ws := am_in 849 (by decide +kernel) (by decide +kernel)
theorem w_554 : Cond.instanceMethod my_134 ∈ am_ws := am_in 850 (by decide +kernel) (by decide +kernel)
theorem w_555 : Cond.selects "SlabImageModel" my_134 my_134 ∈ am_ws := am_in 851 (by decide +kernel) (by decide +kernel)
theorem w_556 : Cond.methodLink "SlabImageLaw" 50 my_48 ∈ am_ws := am_in 400 (by decide +kernel) (by decide +kernel)
theorem w_557 : Cond.instanceMethod my_48 ∈ am_ws := am_in 401 (by decide +kernel) (by decide +kernel)
theorem w_558 : Cond.selects "SlabImage" my_48 my_48 ∈ am_ws := am_in 402 (by decide +kernel) (by decide +kernel)
theorem w_559 : Cond.methodLink "SlabImageLaw" 58 my_135 ∈ am_ws := am_in 854 (by decide +kernel) (by decide +kernel)
theorem w_560 : Cond.instanceMethod my_135 ∈ am_ws := am_in 855 (by decide +kernel) (by decide +kernel)
theorem w_561 : Cond.selects "SlabImageModel" my_135 my_135 ∈ am_ws := am_in 856 (by decide +kernel) (by decide +kernel)
theorem w_562 : Cond.methodLink "SlabImageLaw" 55 my_51 ∈ am_ws := am_in 414 (by decide +kernel) (by decide +kernel)
theorem w_563 : Cond.instanceMethod my_51 ∈ am_ws := am_in 415 (by decide +kernel) (by decide +kernel)
theorem w_564 : Cond.selects "SlabImage" my_51 my_51 ∈ am_ws := am_in 416 (by decide +kernel) (by decide +kernel)
theorem w_565 : Cond.methodLink "SlabImageLaw" 63 my_136 ∈ am_ws := am_in 858 (by decide +kernel) (by decide +kernel)
theorem w_566 : Cond.instanceMethod my_136 ∈ am_ws := am_in 859 (by decide +kernel) (by decide +kernel)
theorem w_567 : Cond.selects "SlabImageModel" my_136 my_136 ∈ am_ws := am_in 860 (by decide +kernel) (by decide +kernel)
theorem w_568 : Cond.methodLink "SlabImageLaw" 59 my_53 ∈ am_ws := am_in 422 (by decide +kernel) (by decide +kernel)
theorem w_569 : Cond.instanceMethod my_53 ∈ am_ws := am_in 423 (by decide +kernel) (by decide +kernel)
theorem w_570 : Cond.selects "SlabImage" my_53 my_53 ∈ am_ws := am_in 424 (by decide +kernel) (by decide +kernel)
theorem w_571 : Cond.methodLink "SlabImageLaw" 68 my_140 ∈ am_ws := am_in 874 (by decide +kernel) (by decide +kernel)
theorem w_572 : Cond.instanceMethod my_140 ∈ am_ws := am_in 875 (by decide +kernel) (by decide +kernel)
theorem w_573 : Cond.selects "SlabImageModel" my_140 my_140 ∈ am_ws := am_in 876 (by decide +kernel) (by decide +kernel)
theorem w_574 : Cond.methodLink "SlabImageLaw" 64 my_60 ∈ am_ws := am_in 451 (by decide +kernel) (by decide +kernel)
theorem w_575 : Cond.instanceMethod my_60 ∈ am_ws := am_in 452 (by decide +kernel) (by decide +kernel)
theorem w_576 : Cond.selects "SlabImage" my_60 my_60 ∈ am_ws := am_in 453 (by decide +kernel) (by decide +kernel)
theorem w_577 : Cond.methodLink "SlabImageLaw" 72 my_141 ∈ am_ws := am_in 878 (by decide +kernel) (by decide +kernel)
theorem w_578 : Cond.instanceMethod my_141 ∈ am_ws := am_in 879 (by decide +kernel) (by decide +kernel)
theorem w_579 : Cond.selects "SlabImageModel" my_141 my_141 ∈ am_ws := am_in 880 (by decide +kernel) (by decide +kernel)
theorem w_580 : Cond.methodLink "SlabImageLaw" 69 my_61 ∈ am_ws := am_in 456 (by decide +kernel) (by decide +kernel)
theorem w_581 : Cond.instanceMethod my_61 ∈ am_ws := am_in 457 (by decide +kernel) (by decide +kernel)
theorem w_582 : Cond.selects "SlabImage" my_61 my_61 ∈ am_ws := am_in 458 (by decide +kernel) (by decide +kernel)
theorem w_583 : Cond.methodLink "SlabImageLaw" 76 my_142 ∈ am_ws := am_in 882 (by decide +kernel) (by decide +kernel)
theorem w_584 : Cond.instanceMethod my_142 ∈ am_ws := am_in 883 (by decide +kernel) (by decide +kernel)
theorem w_585 : Cond.selects "SlabImageModel" my_142 my_142 ∈ am_ws := am_in 884 (by decide +kernel) (by decide +kernel)
theorem w_586 : Cond.methodLink "SlabImageLaw" 73 my_62 ∈ am_ws := am_in 460 (by decide +kernel) (by decide +kernel)
theorem w_587 : Cond.instanceMethod my_62 ∈ am_ws := am_in 461 (by decide +kernel) (by decide +kernel)
theorem w_588 : Cond.selects "SlabImage" my_62 my_62 ∈ am_ws := am_in 462 (by decide +kernel) (by decide +kernel)
theorem w_589 : Cond.methodLink "SlabImageLaw" 81 my_143 ∈ am_ws := am_in 886 (by decide +kernel) (by decide +kernel)
theorem w_590 : Cond.instanceMethod my_143 ∈ am_ws := am_in 887 (by decide +kernel) (by decide +kernel)
theorem w_591 : Cond.selects "SlabImageModel" my_143 my_143 ∈ am_ws := am_in 888 (by decide +kernel) (by decide +kernel)
theorem w_592 : Cond.methodLink "SlabImageLaw" 77 my_63 ∈ am_ws := am_in 464 (by decide +kernel) (by decide +kernel)
theorem w_593 : Cond.instanceMethod my_63 ∈ am_ws := am_in 465 (by decide +kernel) (by decide +kernel)
theorem w_594 : Cond.selects "SlabImage" my_63 my_63 ∈ am_ws := am_in 466 (by decide +kernel) (by decide +kernel)
theorem w_595 : Cond.methodLink "SlabImageLaw" 86 my_144 ∈ am_ws := am_in 890 (by decide +kernel) (by decide +kernel)
theorem w_596 : Cond.instanceMethod my_144 ∈ am_ws := am_in 891 (by decide +kernel) (by decide +kernel)
theorem w_597 : Cond.selects "SlabImageModel" my_144 my_144 ∈ am_ws := am_in 892 (by decide +kernel) (by decide +kernel)
theorem w_598 : Cond.methodLink "SlabImageLaw" 82 my_65 ∈ am_ws := am_in 472 (by decide +kernel) (by decide +kernel)
theorem w_599 : Cond.instanceMethod my_65 ∈ am_ws := am_in 473 (by decide +kernel) (by decide +kernel)
theorem w_600 : Cond.selects "SlabImage" my_65 my_65 ∈ am_ws := am_in 474 (by decide +kernel) (by decide +kernel)
theorem w_601 : Cond.constantLong "SlabImageLaw" 87 (4294967295) ∈ am_ws := am_in 986 (by decide +kernel) (by decide +kernel)
theorem w_602 : Cond.methodLink "SlabImageLaw" 93 my_154 ∈ am_ws := am_in 933 (by decide +kernel) (by decide +kernel)
theorem w_603 : Cond.instanceMethod my_154 ∈ am_ws := am_in 934 (by decide +kernel) (by decide +kernel)
theorem w_604 : Cond.selects "SlabImageModel" my_154 my_154 ∈ am_ws := am_in 935 (by decide +kernel) (by decide +kernel)
theorem w_605 : Cond.methodLink "SlabImageLaw" 89 my_80 ∈ am_ws := am_in 543 (by decide +kernel) (by decide +kernel)
theorem w_606 : Cond.instanceMethod my_80 ∈ am_ws := am_in 544 (by decide +kernel) (by decide +kernel)
theorem w_607 : Cond.selects "SlabImage" my_80 my_80 ∈ am_ws := am_in 545 (by decide +kernel) (by decide +kernel)
theorem w_608 : Cond.methodLink "SlabImageLaw" 97 my_155 ∈ am_ws := am_in 938 (by decide +kernel) (by decide +kernel)
theorem w_609 : Cond.instanceMethod my_155 ∈ am_ws := am_in 939 (by decide +kernel) (by decide +kernel)
theorem w_610 : Cond.selects "SlabImageModel" my_155 my_155 ∈ am_ws := am_in 940 (by decide +kernel) (by decide +kernel)
theorem w_611 : Cond.methodLink "SlabImageLaw" 94 my_81 ∈ am_ws := am_in 548 (by decide +kernel) (by decide +kernel)
theorem w_612 : Cond.instanceMethod my_81 ∈ am_ws := am_in 549 (by decide +kernel) (by decide +kernel)
theorem w_613 : Cond.selects "SlabImage" my_81 my_81 ∈ am_ws := am_in 550 (by decide +kernel) (by decide +kernel)
theorem w_614 : Cond.methodLink "SlabImageLaw" 101 my_156 ∈ am_ws := am_in 942 (by decide +kernel) (by decide +kernel)
theorem w_615 : Cond.instanceMethod my_156 ∈ am_ws := am_in 943 (by decide +kernel) (by decide +kernel)
theorem w_616 : Cond.selects "SlabImageModel" my_156 my_156 ∈ am_ws := am_in 944 (by decide +kernel) (by decide +kernel)
theorem w_617 : Cond.methodLink "SlabImageLaw" 98 my_82 ∈ am_ws := am_in 553 (by decide +kernel) (by decide +kernel)
theorem w_618 : Cond.instanceMethod my_82 ∈ am_ws := am_in 554 (by decide +kernel) (by decide +kernel)
theorem w_619 : Cond.selects "SlabImage" my_82 my_82 ∈ am_ws := am_in 555 (by decide +kernel) (by decide +kernel)
theorem w_620 : Cond.methodLink "SlabImageLaw" 32 my_27 ∈ am_ws := am_in 307 (by decide +kernel) (by decide +kernel)
theorem w_621 : Cond.instanceMethod my_27 ∈ am_ws := am_in 308 (by decide +kernel) (by decide +kernel)
theorem w_622 : Cond.selects "SlabImage" my_27 my_27 ∈ am_ws := am_in 309 (by decide +kernel) (by decide +kernel)
theorem w_623 : Cond.methodLink "SlabImageLaw" 36 my_116 ∈ am_ws := am_in 777 (by decide +kernel) (by decide +kernel)
theorem w_624 : Cond.instanceMethod my_116 ∈ am_ws := am_in 778 (by decide +kernel) (by decide +kernel)
theorem w_625 : Cond.selects "SlabImageModel" my_116 my_116 ∈ am_ws := am_in 779 (by decide +kernel) (by decide +kernel)
theorem w_626 : Cond.code my_0 prog_1_method_1_code 1 (Option.none : Option FieldType) ∈ am_ws := am_in 57 (by decide +kernel) (by decide +kernel)
theorem w_627 : Cond.code my_1 prog_5_method_1_code 2 (Option.none : Option FieldType) ∈ am_ws := am_in 65 (by decide +kernel) (by decide +kernel)
theorem w_628 : Cond.code my_2 prog_6_method_1_code 1 (Option.none : Option FieldType) ∈ am_ws := am_in 72 (by decide +kernel) (by decide +kernel)
theorem w_629 : Cond.code my_3 prog_2_method_1_code 1 (Option.none : Option FieldType) ∈ am_ws := am_in 78 (by decide +kernel) (by decide +kernel)
theorem w_630 : Cond.code my_4 prog_4_method_1_code 1 (Option.none : Option FieldType) ∈ am_ws := am_in 161 (by decide +kernel) (by decide +kernel)
theorem w_631 : Cond.code my_5 prog_3_method_1_code 1 (Option.none : Option FieldType) ∈ am_ws := am_in 179 (by decide +kernel) (by decide +kernel)
theorem w_632 : Cond.code my_6 prog_1_method_2_code 3 (Option.some FieldType.int) ∈ am_ws := am_in 222 (by decide +kernel) (by decide +kernel)
theorem w_633 : Cond.code my_7 prog_5_method_3_code 3 (Option.some FieldType.int) ∈ am_ws := am_in 226 (by decide +kernel) (by decide +kernel)
theorem w_634 : Cond.code my_8 prog_1_method_23_code 1 (Option.some FieldType.boolean) ∈ am_ws := am_in 229 (by decide +kernel) (by decide +kernel)
theorem w_635 : Cond.code my_9 prog_1_method_28_code 4 (Option.some FieldType.int) ∈ am_ws := am_in 232 (by decide +kernel) (by decide +kernel)
theorem w_636 : Cond.code my_10 prog_5_method_4_code 2 (Option.some FieldType.boolean) ∈ am_ws := am_in 236 (by decide +kernel) (by decide +kernel)
theorem w_637 : Cond.code my_11 prog_1_method_3_code 5 (Option.some FieldType.int) ∈ am_ws := am_in 240 (by decide +kernel) (by decide +kernel)
theorem w_638 : Cond.code my_12 prog_5_method_5_code 5 (Option.some FieldType.int) ∈ am_ws := am_in 244 (by decide +kernel) (by decide +kernel)
theorem w_639 : Cond.code my_13 prog_1_method_24_code 1 (Option.some FieldType.boolean) ∈ am_ws := am_in 247 (by decide +kernel) (by decide +kernel)
theorem w_640 : Cond.code my_14 prog_5_method_7_code 2 (Option.some FieldType.boolean) ∈ am_ws := am_in 251 (by decide +kernel) (by decide +kernel)
theorem w_641 : Cond.code my_15 prog_5_method_6_code 2 (Option.some FieldType.boolean) ∈ am_ws := am_in 255 (by decide +kernel) (by decide +kernel)
theorem w_642 : Cond.code my_16 prog_5_method_8_code 2 (Option.some FieldType.int) ∈ am_ws := am_in 259 (by decide +kernel) (by decide +kernel)
theorem w_643 : Cond.code my_17 prog_6_method_2_code 5 (Option.none : Option FieldType) ∈ am_ws := am_in 263 (by decide +kernel) (by decide +kernel)
theorem w_644 : Cond.code my_18 prog_6_method_3_code 2 (Option.none : Option FieldType) ∈ am_ws := am_in 267 (by decide +kernel) (by decide +kernel)
theorem w_645 : Cond.code my_19 prog_9_method_103_code 4 (Option.none : Option FieldType) ∈ am_ws := am_in 272 (by decide +kernel) (by decide +kernel)
theorem w_646 : Cond.initialized "java/util/Arrays" ∈ am_ws := am_in 52 (by decide +kernel) (by decide +kernel)
theorem w_647 : Cond.code my_20 prog_1_method_4_code 7 (Option.some FieldType.int) ∈ am_ws := am_in 276 (by decide +kernel) (by decide +kernel)
theorem w_648 : Cond.code my_21 prog_5_method_10_code 3 (Option.some (FieldType.object "SlabImage$AttributeList")) ∈ am_ws := am_in 280 (by decide +kernel) (by decide +kernel)
theorem w_649 : Cond.code my_22 prog_5_method_9_code 2 (Option.some (FieldType.object "SlabImage$Variable")) ∈ am_ws := am_in 284 (by decide +kernel) (by decide +kernel)
theorem w_650 : Cond.code my_23 prog_2_method_3_code 6 (Option.some FieldType.int) ∈ am_ws := am_in 288 (by decide +kernel) (by decide +kernel)
theorem w_651 : Cond.code my_24 prog_1_method_25_code 2 (Option.some FieldType.boolean) ∈ am_ws := am_in 293 (by decide +kernel) (by decide +kernel)
theorem w_652 : Cond.code my_25 prog_1_method_5_code 4 (Option.some FieldType.int) ∈ am_ws := am_in 302 (by decide +kernel) (by decide +kernel)
theorem w_653 : Cond.code my_26 prog_2_method_4_code 4 (Option.some FieldType.int) ∈ am_ws := am_in 306 (by decide +kernel) (by decide +kernel)
theorem w_654 : Cond.code my_27 prog_1_method_6_code 4 (Option.some FieldType.int) ∈ am_ws := am_in 310 (by decide +kernel) (by decide +kernel)
theorem w_655 : Cond.code my_28 prog_5_method_12_code 3 (Option.some FieldType.int) ∈ am_ws := am_in 314 (by decide +kernel) (by decide +kernel)
theorem w_656 : Cond.code my_29 prog_5_method_13_code 5 (Option.some FieldType.int) ∈ am_ws := am_in 317 (by decide +kernel) (by decide +kernel)
theorem w_657 : Cond.code my_30 prog_5_method_11_code 3 (Option.some FieldType.int) ∈ am_ws := am_in 321 (by decide +kernel) (by decide +kernel)
theorem w_658 : Cond.code my_31 prog_1_method_7_code 3 (Option.some FieldType.int) ∈ am_ws := am_in 325 (by decide +kernel) (by decide +kernel)
theorem w_659 : Cond.code my_32 prog_5_method_20_code 3 (Option.some FieldType.long) ∈ am_ws := am_in 329 (by decide +kernel) (by decide +kernel)
theorem w_660 : Cond.code my_33 prog_5_method_17_code 3 (Option.some FieldType.int) ∈ am_ws := am_in 333 (by decide +kernel) (by decide +kernel)
theorem w_661 : Cond.code my_34 prog_2_method_5_code 3 (Option.some FieldType.int) ∈ am_ws := am_in 337 (by decide +kernel) (by decide +kernel)
theorem w_662 : Cond.code my_35 prog_1_method_27_code 1 (Option.some FieldType.int) ∈ am_ws := am_in 342 (by decide +kernel) (by decide +kernel)
theorem w_663 : Cond.code my_36 prog_6_method_11_code 1 (Option.some FieldType.int) ∈ am_ws := am_in 346 (by decide +kernel) (by decide +kernel)
theorem w_664 : Cond.code my_37 prog_6_method_4_code 1 (Option.some FieldType.int) ∈ am_ws := am_in 350 (by decide +kernel) (by decide +kernel)
theorem w_665 : Cond.code my_38 prog_5_method_18_code 5 (Option.some FieldType.int) ∈ am_ws := am_in 355 (by decide +kernel) (by decide +kernel)
theorem w_666 : Cond.code my_39 prog_6_method_10_code 1 (Option.some FieldType.int) ∈ am_ws := am_in 359 (by decide +kernel) (by decide +kernel)
theorem w_667 : Cond.code my_40 prog_6_method_9_code 1 (Option.some FieldType.int) ∈ am_ws := am_in 363 (by decide +kernel) (by decide +kernel)
theorem w_668 : Cond.code my_41 prog_5_method_19_code 3 (Option.some FieldType.int) ∈ am_ws := am_in 369 (by decide +kernel) (by decide +kernel)
theorem w_669 : Cond.code my_42 prog_5_method_16_code 3 (Option.some FieldType.int) ∈ am_ws := am_in 373 (by decide +kernel) (by decide +kernel)
theorem w_670 : Cond.code my_43 prog_1_method_8_code 1 (Option.some FieldType.int) ∈ am_ws := am_in 379 (by decide +kernel) (by decide +kernel)
theorem w_671 : Cond.code my_44 prog_1_method_9_code 6 (Option.some FieldType.int) ∈ am_ws := am_in 383 (by decide +kernel) (by decide +kernel)
theorem w_672 : Cond.code my_45 prog_6_method_5_code 5 (Option.some FieldType.boolean) ∈ am_ws := am_in 388 (by decide +kernel) (by decide +kernel)
theorem w_673 : Cond.code my_46 prog_5_method_15_code 4 (Option.some FieldType.boolean) ∈ am_ws := am_in 393 (by decide +kernel) (by decide +kernel)
theorem w_674 : Cond.code my_47 prog_6_method_7_code 5 (Option.none : Option FieldType) ∈ am_ws := am_in 399 (by decide +kernel) (by decide +kernel)
theorem w_675 : Cond.code my_48 prog_1_method_10_code 5 (Option.some FieldType.long) ∈ am_ws := am_in 403 (by decide +kernel) (by decide +kernel)
theorem w_676 : Cond.code my_49 prog_5_method_14_code 6 (Option.some FieldType.boolean) ∈ am_ws := am_in 408 (by decide +kernel) (by decide +kernel)
theorem w_677 : Cond.code my_50 prog_6_method_6_code 4 (Option.some FieldType.int) ∈ am_ws := am_in 413 (by decide +kernel) (by decide +kernel)
theorem w_678 : Cond.code my_51 prog_1_method_11_code 6 (Option.some FieldType.int) ∈ am_ws := am_in 417 (by decide +kernel) (by decide +kernel)
theorem w_679 : Cond.code my_52 prog_4_method_2_code 4 (Option.none : Option FieldType) ∈ am_ws := am_in 421 (by decide +kernel) (by decide +kernel)
theorem w_680 : Cond.code my_53 prog_1_method_12_code 8 (Option.some FieldType.int) ∈ am_ws := am_in 425 (by decide +kernel) (by decide +kernel)
theorem w_681 : Cond.code my_54 prog_1_method_21_code 2 (Option.some (FieldType.object "SlabImage$Selection")) ∈ am_ws := am_in 429 (by decide +kernel) (by decide +kernel)
theorem w_682 : Cond.code my_55 prog_1_method_22_code 2 (Option.some (FieldType.object "SlabImage$Selection")) ∈ am_ws := am_in 434 (by decide +kernel) (by decide +kernel)
theorem w_683 : Cond.code my_56 prog_4_method_3_code 1 (Option.some FieldType.long) ∈ am_ws := am_in 438 (by decide +kernel) (by decide +kernel)
theorem w_684 : Cond.code my_57 prog_1_method_26_code 5 (Option.some FieldType.boolean) ∈ am_ws := am_in 441 (by decide +kernel) (by decide +kernel)
theorem w_685 : Cond.code my_58 prog_6_method_8_code 8 (Option.none : Option FieldType) ∈ am_ws := am_in 445 (by decide +kernel) (by decide +kernel)
theorem w_686 : Cond.code my_59 prog_4_method_4_code 2 (Option.some FieldType.int) ∈ am_ws := am_in 449 (by decide +kernel) (by decide +kernel)
theorem w_687 : Cond.code my_60 prog_1_method_13_code 6 (Option.some FieldType.long) ∈ am_ws := am_in 454 (by decide +kernel) (by decide +kernel)
theorem w_688 : Cond.code my_61 prog_1_method_14_code 1 (Option.some FieldType.int) ∈ am_ws := am_in 459 (by decide +kernel) (by decide +kernel)
theorem w_689 : Cond.code my_62 prog_1_method_15_code 1 (Option.some FieldType.int) ∈ am_ws := am_in 463 (by decide +kernel) (by decide +kernel)
theorem w_690 : Cond.code my_63 prog_1_method_16_code 2 (Option.some FieldType.int) ∈ am_ws := am_in 467 (by decide +kernel) (by decide +kernel)
theorem w_691 : Cond.code my_64 prog_5_method_21_code 2 (Option.some FieldType.int) ∈ am_ws := am_in 471 (by decide +kernel) (by decide +kernel)
theorem w_692 : Cond.code my_65 prog_1_method_17_code 5 (Option.some FieldType.long) ∈ am_ws := am_in 475 (by decide +kernel) (by decide +kernel)
theorem w_693 : Cond.code my_66 prog_5_method_22_code 3 (Option.none : Option FieldType) ∈ am_ws := am_in 479 (by decide +kernel) (by decide +kernel)
theorem w_694 : Cond.code my_67 prog_3_method_2_code 1 (Option.none : Option FieldType) ∈ am_ws := am_in 483 (by decide +kernel) (by decide +kernel)
theorem w_695 : Cond.code my_68 prog_3_method_5_code 2 (Option.none : Option FieldType) ∈ am_ws := am_in 488 (by decide +kernel) (by decide +kernel)
theorem w_696 : Cond.code my_69 prog_3_method_4_code 4 (Option.none : Option FieldType) ∈ am_ws := am_in 492 (by decide +kernel) (by decide +kernel)
theorem w_697 : Cond.code my_70 prog_3_method_3_code 2 (Option.none : Option FieldType) ∈ am_ws := am_in 496 (by decide +kernel) (by decide +kernel)
theorem w_698 : Cond.code my_71 prog_3_method_7_code 3 (Option.none : Option FieldType) ∈ am_ws := am_in 500 (by decide +kernel) (by decide +kernel)
theorem w_699 : Cond.code my_72 prog_3_method_6_code 2 (Option.none : Option FieldType) ∈ am_ws := am_in 504 (by decide +kernel) (by decide +kernel)
theorem w_700 : Cond.code my_73 prog_2_method_6_code 3 (Option.none : Option FieldType) ∈ am_ws := am_in 508 (by decide +kernel) (by decide +kernel)
theorem w_701 : Cond.code my_74 prog_3_method_8_code 3 (Option.none : Option FieldType) ∈ am_ws := am_in 516 (by decide +kernel) (by decide +kernel)
theorem w_702 : Cond.code my_75 prog_5_method_23_code 5 (Option.none : Option FieldType) ∈ am_ws := am_in 522 (by decide +kernel) (by decide +kernel)
theorem w_703 : Cond.code my_76 prog_5_method_24_code 4 (Option.none : Option FieldType) ∈ am_ws := am_in 527 (by decide +kernel) (by decide +kernel)
theorem w_704 : Cond.code my_77 prog_6_method_12_code 4 (Option.none : Option FieldType) ∈ am_ws := am_in 531 (by decide +kernel) (by decide +kernel)
theorem w_705 : Cond.code my_78 prog_5_method_25_code 5 (Option.none : Option FieldType) ∈ am_ws := am_in 538 (by decide +kernel) (by decide +kernel)
theorem w_706 : Cond.code my_79 prog_3_method_9_code 2 (Option.some FieldType.int) ∈ am_ws := am_in 542 (by decide +kernel) (by decide +kernel)
theorem w_707 : Cond.code my_80 prog_1_method_18_code 5 (Option.some FieldType.boolean) ∈ am_ws := am_in 546 (by decide +kernel) (by decide +kernel)
theorem w_708 : Cond.code my_81 prog_1_method_19_code 1 (Option.none : Option FieldType) ∈ am_ws := am_in 551 (by decide +kernel) (by decide +kernel)
theorem w_709 : Cond.code my_82 prog_1_method_20_code 2 (Option.some FieldType.int) ∈ am_ws := am_in 556 (by decide +kernel) (by decide +kernel)
theorem w_710 : Cond.code my_83 prog_5_method_2_code 2 (Option.none : Option FieldType) ∈ am_ws := am_in 560 (by decide +kernel) (by decide +kernel)
theorem w_711 : Cond.code my_84 prog_2_method_2_code 1 (Option.none : Option FieldType) ∈ am_ws := am_in 564 (by decide +kernel) (by decide +kernel)
theorem w_712 : Cond.code my_85 prog_5_method_26_code 3 (Option.some FieldType.boolean) ∈ am_ws := am_in 568 (by decide +kernel) (by decide +kernel)
theorem w_713 : Cond.code my_86 prog_3_method_10_code 1 (Option.none : Option FieldType) ∈ am_ws := am_in 572 (by decide +kernel) (by decide +kernel)
theorem w_714 : Cond.code my_87 prog_3_method_12_code 1 (Option.some FieldType.int) ∈ am_ws := am_in 576 (by decide +kernel) (by decide +kernel)
theorem w_715 : Cond.code my_88 prog_3_method_11_code 4 (Option.some FieldType.int) ∈ am_ws := am_in 580 (by decide +kernel) (by decide +kernel)
theorem w_716 : Cond.code my_89 prog_5_method_27_code 6 (Option.some FieldType.boolean) ∈ am_ws := am_in 584 (by decide +kernel) (by decide +kernel)
theorem w_717 : Cond.code my_90 prog_3_method_14_code 1 (Option.some FieldType.int) ∈ am_ws := am_in 588 (by decide +kernel) (by decide +kernel)
theorem w_718 : Cond.code my_91 prog_3_method_13_code 1 (Option.some FieldType.int) ∈ am_ws := am_in 592 (by decide +kernel) (by decide +kernel)
theorem w_719 : Cond.code my_92 prog_2_method_7_code 8 (Option.some FieldType.boolean) ∈ am_ws := am_in 597 (by decide +kernel) (by decide +kernel)
theorem w_720 : Cond.code my_93 prog_3_method_15_code 3 (Option.some FieldType.int) ∈ am_ws := am_in 604 (by decide +kernel) (by decide +kernel)
theorem w_721 : Cond.code my_94 prog_3_method_16_code 1 (Option.none : Option FieldType) ∈ am_ws := am_in 609 (by decide +kernel) (by decide +kernel)
theorem w_722 : Cond.code my_95 prog_5_method_28_code 4 (Option.some FieldType.boolean) ∈ am_ws := am_in 614 (by decide +kernel) (by decide +kernel)
theorem w_723 : Cond.code my_96 prog_5_method_29_code 8 (Option.some FieldType.boolean) ∈ am_ws := am_in 618 (by decide +kernel) (by decide +kernel)
theorem w_724 : Cond.code my_97 prog_5_method_30_code 4 (Option.none : Option FieldType) ∈ am_ws := am_in 623 (by decide +kernel) (by decide +kernel)
theorem w_725 : Cond.code my_98 prog_6_method_13_code 4 (Option.none : Option FieldType) ∈ am_ws := am_in 627 (by decide +kernel) (by decide +kernel)
theorem w_726 : Cond.code my_99 prog_5_method_31_code 5 (Option.none : Option FieldType) ∈ am_ws := am_in 633 (by decide +kernel) (by decide +kernel)
theorem w_727 : Cond.code my_100 prog_3_method_17_code 3 (Option.some FieldType.boolean) ∈ am_ws := am_in 637 (by decide +kernel) (by decide +kernel)
theorem w_728 : Cond.code my_101 prog_8_method_1_code 1 (Option.none : Option FieldType) ∈ am_ws := am_in 642 (by decide +kernel) (by decide +kernel)
theorem w_729 : Cond.code my_102 prog_8_method_30_code 4 (Option.some FieldType.int) ∈ am_ws := am_in 726 (by decide +kernel) (by decide +kernel)
theorem w_730 : Cond.code my_103 prog_8_method_2_code 1 (Option.some FieldType.boolean) ∈ am_ws := am_in 729 (by decide +kernel) (by decide +kernel)
theorem w_731 : Cond.code my_104 prog_8_method_27_code 6 (Option.some FieldType.boolean) ∈ am_ws := am_in 733 (by decide +kernel) (by decide +kernel)
theorem w_732 : Cond.code my_105 prog_8_method_29_code 4 (Option.some FieldType.int) ∈ am_ws := am_in 737 (by decide +kernel) (by decide +kernel)
theorem w_733 : Cond.code my_106 prog_8_method_32_code 7 (Option.some FieldType.int) ∈ am_ws := am_in 741 (by decide +kernel) (by decide +kernel)
theorem w_734 : Cond.code my_107 prog_8_method_25_code 2 (Option.some FieldType.boolean) ∈ am_ws := am_in 745 (by decide +kernel) (by decide +kernel)
theorem w_735 : Cond.code my_108 prog_8_method_28_code 6 (Option.some FieldType.boolean) ∈ am_ws := am_in 749 (by decide +kernel) (by decide +kernel)
theorem w_736 : Cond.code my_109 prog_8_method_31_code 4 (Option.none : Option FieldType) ∈ am_ws := am_in 753 (by decide +kernel) (by decide +kernel)
theorem w_737 : Cond.code my_110 prog_8_method_4_code 1 (Option.some FieldType.int) ∈ am_ws := am_in 756 (by decide +kernel) (by decide +kernel)
theorem w_738 : Cond.code my_111 prog_8_method_34_code 8 (Option.some FieldType.int) ∈ am_ws := am_in 761 (by decide +kernel) (by decide +kernel)
theorem w_739 : Cond.code my_112 prog_8_method_26_code 2 (Option.some FieldType.boolean) ∈ am_ws := am_in 765 (by decide +kernel) (by decide +kernel)
theorem w_740 : Cond.code my_113 prog_8_method_5_code 2 (Option.some FieldType.boolean) ∈ am_ws := am_in 768 (by decide +kernel) (by decide +kernel)
theorem w_741 : Cond.code my_114 prog_8_method_33_code 5 (Option.some FieldType.int) ∈ am_ws := am_in 772 (by decide +kernel) (by decide +kernel)
theorem w_742 : Cond.code my_115 prog_8_method_35_code 7 (Option.some FieldType.int) ∈ am_ws := am_in 776 (by decide +kernel) (by decide +kernel)
theorem w_743 : Cond.code my_116 prog_8_method_36_code 4 (Option.some FieldType.int) ∈ am_ws := am_in 780 (by decide +kernel) (by decide +kernel)
theorem w_744 : Cond.code my_117 prog_8_method_37_code 3 (Option.some FieldType.int) ∈ am_ws := am_in 784 (by decide +kernel) (by decide +kernel)
theorem w_745 : Cond.code my_118 prog_8_method_15_code 4 (Option.some FieldType.long) ∈ am_ws := am_in 788 (by decide +kernel) (by decide +kernel)
theorem w_746 : Cond.code my_119 prog_8_method_13_code 7 (Option.some FieldType.int) ∈ am_ws := am_in 792 (by decide +kernel) (by decide +kernel)
theorem w_747 : Cond.code my_120 prog_8_method_7_code 3 (Option.some FieldType.boolean) ∈ am_ws := am_in 796 (by decide +kernel) (by decide +kernel)
theorem w_748 : Cond.code my_121 prog_8_method_6_code 4 (Option.some FieldType.int) ∈ am_ws := am_in 800 (by decide +kernel) (by decide +kernel)
theorem w_749 : Cond.code my_122 prog_8_method_12_code 4 (Option.some FieldType.int) ∈ am_ws := am_in 804 (by decide +kernel) (by decide +kernel)
theorem w_750 : Cond.code my_123 prog_8_method_11_code 5 (Option.some FieldType.int) ∈ am_ws := am_in 808 (by decide +kernel) (by decide +kernel)
theorem w_751 : Cond.code my_124 prog_8_method_9_code 3 (Option.some FieldType.int) ∈ am_ws := am_in 812 (by decide +kernel) (by decide +kernel)
theorem w_752 : Cond.code my_125 prog_8_method_8_code 4 (Option.some FieldType.int) ∈ am_ws := am_in 816 (by decide +kernel) (by decide +kernel)
theorem w_753 : Cond.code my_126 prog_8_method_3_code 1 (Option.some FieldType.int) ∈ am_ws := am_in 819 (by decide +kernel) (by decide +kernel)
theorem w_754 : Cond.code my_127 prog_8_method_14_code 6 (Option.some FieldType.int) ∈ am_ws := am_in 823 (by decide +kernel) (by decide +kernel)
theorem w_755 : Cond.code my_128 prog_8_method_10_code 4 (Option.some FieldType.int) ∈ am_ws := am_in 827 (by decide +kernel) (by decide +kernel)
theorem w_756 : Cond.code my_129 prog_8_method_38_code 1 (Option.some FieldType.int) ∈ am_ws := am_in 832 (by decide +kernel) (by decide +kernel)
theorem w_757 : Cond.code my_130 prog_8_method_41_code 5 (Option.some FieldType.int) ∈ am_ws := am_in 836 (by decide +kernel) (by decide +kernel)
theorem w_758 : Cond.code my_131 prog_8_method_39_code 7 (Option.some FieldType.boolean) ∈ am_ws := am_in 840 (by decide +kernel) (by decide +kernel)
theorem w_759 : Cond.code my_132 prog_8_method_42_code 4 (Option.some FieldType.boolean) ∈ am_ws := am_in 844 (by decide +kernel) (by decide +kernel)
theorem w_760 : Cond.code my_133 prog_8_method_40_code 6 (Option.some FieldType.int) ∈ am_ws := am_in 848 (by decide +kernel) (by decide +kernel)
theorem w_761 : Cond.code my_134 prog_8_method_43_code 4 (Option.some FieldType.long) ∈ am_ws := am_in 852 (by decide +kernel) (by decide +kernel)
theorem w_762 : Cond.code my_135 prog_8_method_44_code 5 (Option.some FieldType.int) ∈ am_ws := am_in 857 (by decide +kernel) (by decide +kernel)
theorem w_763 : Cond.code my_136 prog_8_method_48_code 6 (Option.some FieldType.int) ∈ am_ws := am_in 861 (by decide +kernel) (by decide +kernel)
theorem w_764 : Cond.code my_137 prog_8_method_47_code 5 (Option.some FieldType.boolean) ∈ am_ws := am_in 865 (by decide +kernel) (by decide +kernel)
theorem w_765 : Cond.code my_138 prog_8_method_45_code 3 (Option.some FieldType.int) ∈ am_ws := am_in 869 (by decide +kernel) (by decide +kernel)
theorem w_766 : Cond.code my_139 prog_8_method_46_code 4 (Option.some FieldType.long) ∈ am_ws := am_in 873 (by decide +kernel) (by decide +kernel)
theorem w_767 : Cond.code my_140 prog_8_method_49_code 3 (Option.some FieldType.long) ∈ am_ws := am_in 877 (by decide +kernel) (by decide +kernel)
theorem w_768 : Cond.code my_141 prog_8_method_50_code 1 (Option.some FieldType.int) ∈ am_ws := am_in 881 (by decide +kernel) (by decide +kernel)
theorem w_769 : Cond.code my_142 prog_8_method_51_code 1 (Option.some FieldType.int) ∈ am_ws := am_in 885 (by decide +kernel) (by decide +kernel)
theorem w_770 : Cond.code my_143 prog_8_method_52_code 2 (Option.some FieldType.int) ∈ am_ws := am_in 889 (by decide +kernel) (by decide +kernel)
theorem w_771 : Cond.code my_144 prog_8_method_53_code 7 (Option.some FieldType.long) ∈ am_ws := am_in 893 (by decide +kernel) (by decide +kernel)
theorem w_772 : Cond.code my_145 prog_8_method_24_code 5 (Option.none : Option FieldType) ∈ am_ws := am_in 897 (by decide +kernel) (by decide +kernel)
theorem w_773 : Cond.code my_146 prog_8_method_17_code 4 (Option.none : Option FieldType) ∈ am_ws := am_in 902 (by decide +kernel) (by decide +kernel)
theorem w_774 : Cond.code my_147 prog_8_method_16_code 2 (Option.none : Option FieldType) ∈ am_ws := am_in 906 (by decide +kernel) (by decide +kernel)
theorem w_775 : Cond.code my_148 prog_8_method_20_code 3 (Option.none : Option FieldType) ∈ am_ws := am_in 910 (by decide +kernel) (by decide +kernel)
theorem w_776 : Cond.code my_149 prog_8_method_18_code 2 (Option.none : Option FieldType) ∈ am_ws := am_in 914 (by decide +kernel) (by decide +kernel)
theorem w_777 : Cond.code my_150 prog_8_method_21_code 5 (Option.none : Option FieldType) ∈ am_ws := am_in 918 (by decide +kernel) (by decide +kernel)
theorem w_778 : Cond.code my_151 prog_8_method_19_code 2 (Option.none : Option FieldType) ∈ am_ws := am_in 922 (by decide +kernel) (by decide +kernel)
theorem w_779 : Cond.code my_152 prog_8_method_22_code 6 (Option.none : Option FieldType) ∈ am_ws := am_in 926 (by decide +kernel) (by decide +kernel)
theorem w_780 : Cond.code my_153 prog_8_method_23_code 9 (Option.none : Option FieldType) ∈ am_ws := am_in 930 (by decide +kernel) (by decide +kernel)
theorem w_781 : Cond.code my_154 prog_8_method_54_code 5 (Option.some FieldType.boolean) ∈ am_ws := am_in 936 (by decide +kernel) (by decide +kernel)
theorem w_782 : Cond.code my_155 prog_8_method_55_code 1 (Option.none : Option FieldType) ∈ am_ws := am_in 941 (by decide +kernel) (by decide +kernel)
theorem w_783 : Cond.code my_156 prog_8_method_66_code 3 (Option.some FieldType.int) ∈ am_ws := am_in 945 (by decide +kernel) (by decide +kernel)
theorem w_784 : Cond.code my_157 prog_8_method_63_code 4 (Option.some FieldType.boolean) ∈ am_ws := am_in 949 (by decide +kernel) (by decide +kernel)
theorem w_785 : Cond.code my_158 prog_8_method_56_code 4 (Option.some FieldType.int) ∈ am_ws := am_in 953 (by decide +kernel) (by decide +kernel)
theorem w_786 : Cond.code my_159 prog_8_method_61_code 6 (Option.some FieldType.boolean) ∈ am_ws := am_in 957 (by decide +kernel) (by decide +kernel)
theorem w_787 : Cond.code my_160 prog_8_method_59_code 3 (Option.some FieldType.int) ∈ am_ws := am_in 961 (by decide +kernel) (by decide +kernel)
theorem w_788 : Cond.code my_161 prog_8_method_58_code 1 (Option.some FieldType.int) ∈ am_ws := am_in 965 (by decide +kernel) (by decide +kernel)
theorem w_789 : Cond.code my_162 prog_8_method_60_code 7 (Option.some FieldType.boolean) ∈ am_ws := am_in 969 (by decide +kernel) (by decide +kernel)
theorem w_790 : Cond.code my_163 prog_8_method_57_code 3 (Option.some FieldType.int) ∈ am_ws := am_in 973 (by decide +kernel) (by decide +kernel)
theorem w_791 : Cond.code my_164 prog_8_method_62_code 6 (Option.some FieldType.boolean) ∈ am_ws := am_in 977 (by decide +kernel) (by decide +kernel)
theorem w_792 : Cond.code my_165 prog_8_method_65_code 5 (Option.none : Option FieldType) ∈ am_ws := am_in 981 (by decide +kernel) (by decide +kernel)
theorem w_793 : Cond.code my_166 prog_8_method_64_code 8 (Option.none : Option FieldType) ∈ am_ws := am_in 985 (by decide +kernel) (by decide +kernel)
theorem inX0 : ∀ w ∈ u_ws RX0 TX0 5, w ∈ am_ws := by
  show ∀ w ∈ [u_lay RX0 TX0 0, u_lay RX0 TX0 1, u_lay RX0 TX0 2, u_lay RX0 TX0 3, u_lay RX0 TX0 4], w ∈ am_ws
  exact List.forall_mem_cons.mpr ⟨am_in 85 (by decide +kernel) (by decide +kernel), List.forall_mem_cons.mpr ⟨am_in 87 (by decide +kernel) (by decide +kernel), List.forall_mem_cons.mpr ⟨am_in 89 (by decide +kernel) (by decide +kernel), List.forall_mem_cons.mpr ⟨am_in 91 (by decide +kernel) (by decide +kernel), List.forall_mem_cons.mpr ⟨am_in 93 (by decide +kernel) (by decide +kernel), fun _ h => absurd h List.not_mem_nil⟩⟩⟩⟩⟩
theorem fxX0 : am_Fx 0 RX0 TX0 5 tyX0 := ⟨rfl, inX0, tyX0_ok, nmX0⟩
theorem dvX0_ok : ∀ (sA : Nat → Nat) (z : Nat) (j : Nat), j < 5 → defaultValue (tyX0 j) = vp_V (dvX0.map (am_tr sA z)) j := by
  intro sA z j hj
  rcases (show j = 0 ∨ j = 1 ∨ j = 2 ∨ j = 3 ∨ j = 4 by omega) with rfl | rfl | rfl | rfl | rfl <;> rfl
theorem inX1 : ∀ w ∈ u_ws RX1 TX1 3, w ∈ am_ws := by
  show ∀ w ∈ [u_lay RX1 TX1 0, u_lay RX1 TX1 1, u_lay RX1 TX1 2], w ∈ am_ws
  exact List.forall_mem_cons.mpr ⟨am_in 186 (by decide +kernel) (by decide +kernel), List.forall_mem_cons.mpr ⟨am_in 188 (by decide +kernel) (by decide +kernel), List.forall_mem_cons.mpr ⟨am_in 190 (by decide +kernel) (by decide +kernel), fun _ h => absurd h List.not_mem_nil⟩⟩⟩
theorem fxX1 : am_Fx 1 RX1 TX1 3 tyX1 := ⟨rfl, inX1, tyX1_ok, nmX1⟩
theorem dvX1_ok : ∀ (sA : Nat → Nat) (z : Nat) (j : Nat), j < 3 → defaultValue (tyX1 j) = vp_V (dvX1.map (am_tr sA z)) j := by
  intro sA z j hj
  rcases (show j = 0 ∨ j = 1 ∨ j = 2 by omega) with rfl | rfl | rfl <;> rfl
theorem inX2 : ∀ w ∈ u_ws RX2 TX2 3, w ∈ am_ws := by
  show ∀ w ∈ [u_lay RX2 TX2 0, u_lay RX2 TX2 1, u_lay RX2 TX2 2], w ∈ am_ws
  exact List.forall_mem_cons.mpr ⟨am_in 168 (by decide +kernel) (by decide +kernel), List.forall_mem_cons.mpr ⟨am_in 170 (by decide +kernel) (by decide +kernel), List.forall_mem_cons.mpr ⟨am_in 172 (by decide +kernel) (by decide +kernel), fun _ h => absurd h List.not_mem_nil⟩⟩⟩
theorem fxX2 : am_Fx 2 RX2 TX2 3 tyX2 := ⟨rfl, inX2, tyX2_ok, nmX2⟩
theorem dvX2_ok : ∀ (sA : Nat → Nat) (z : Nat) (j : Nat), j < 3 → defaultValue (tyX2 j) = vp_V (dvX2.map (am_tr sA z)) j := by
  intro sA z j hj
  rcases (show j = 0 ∨ j = 1 ∨ j = 2 by omega) with rfl | rfl | rfl <;> rfl
theorem inX3 : ∀ w ∈ u_ws RX3 TX3 8, w ∈ am_ws := by
  show ∀ w ∈ [u_lay RX3 TX3 0, u_lay RX3 TX3 1, u_lay RX3 TX3 2, u_lay RX3 TX3 3, u_lay RX3 TX3 4, u_lay RX3 TX3 5, u_lay RX3 TX3 6, u_lay RX3 TX3 7], w ∈ am_ws
  exact List.forall_mem_cons.mpr ⟨am_in 140 (by decide +kernel) (by decide +kernel), List.forall_mem_cons.mpr ⟨am_in 142 (by decide +kernel) (by decide +kernel), List.forall_mem_cons.mpr ⟨am_in 144 (by decide +kernel) (by decide +kernel), List.forall_mem_cons.mpr ⟨am_in 146 (by decide +kernel) (by decide +kernel), List.forall_mem_cons.mpr ⟨am_in 148 (by decide +kernel) (by decide +kernel), List.forall_mem_cons.mpr ⟨am_in 150 (by decide +kernel) (by decide +kernel), List.forall_mem_cons.mpr ⟨am_in 152 (by decide +kernel) (by decide +kernel), List.forall_mem_cons.mpr ⟨am_in 154 (by decide +kernel) (by decide +kernel), fun _ h => absurd h List.not_mem_nil⟩⟩⟩⟩⟩⟩⟩⟩
theorem fxX3 : am_Fx 3 RX3 TX3 8 tyX3 := ⟨rfl, inX3, tyX3_ok, nmX3⟩
theorem dvX3_ok : ∀ (sA : Nat → Nat) (z : Nat) (j : Nat), j < 8 → defaultValue (tyX3 j) = vp_V (dvX3.map (am_tr sA z)) j := by
  intro sA z j hj
  rcases (show j = 0 ∨ j = 1 ∨ j = 2 ∨ j = 3 ∨ j = 4 ∨ j = 5 ∨ j = 6 ∨ j = 7 by omega) with rfl | rfl | rfl | rfl | rfl | rfl | rfl | rfl <;> rfl
theorem inX4 : ∀ w ∈ u_ws RX4 TX4 8, w ∈ am_ws := by
  show ∀ w ∈ [u_lay RX4 TX4 0, u_lay RX4 TX4 1, u_lay RX4 TX4 2, u_lay RX4 TX4 3, u_lay RX4 TX4 4, u_lay RX4 TX4 5, u_lay RX4 TX4 6, u_lay RX4 TX4 7], w ∈ am_ws
  exact List.forall_mem_cons.mpr ⟨am_in 112 (by decide +kernel) (by decide +kernel), List.forall_mem_cons.mpr ⟨am_in 114 (by decide +kernel) (by decide +kernel), List.forall_mem_cons.mpr ⟨am_in 116 (by decide +kernel) (by decide +kernel), List.forall_mem_cons.mpr ⟨am_in 118 (by decide +kernel) (by decide +kernel), List.forall_mem_cons.mpr ⟨am_in 120 (by decide +kernel) (by decide +kernel), List.forall_mem_cons.mpr ⟨am_in 122 (by decide +kernel) (by decide +kernel), List.forall_mem_cons.mpr ⟨am_in 124 (by decide +kernel) (by decide +kernel), List.forall_mem_cons.mpr ⟨am_in 126 (by decide +kernel) (by decide +kernel), fun _ h => absurd h List.not_mem_nil⟩⟩⟩⟩⟩⟩⟩⟩
theorem fxX4 : am_Fx 4 RX4 TX4 8 tyX4 := ⟨rfl, inX4, tyX4_ok, nmX4⟩
theorem dvX4_ok : ∀ (sA : Nat → Nat) (z : Nat) (j : Nat), j < 8 → defaultValue (tyX4 j) = vp_V (dvX4.map (am_tr sA z)) j := by
  intro sA z j hj
  rcases (show j = 0 ∨ j = 1 ∨ j = 2 ∨ j = 3 ∨ j = 4 ∨ j = 5 ∨ j = 6 ∨ j = 7 by omega) with rfl | rfl | rfl | rfl | rfl | rfl | rfl | rfl <;> rfl
theorem inX5 : ∀ w ∈ u_ws RX5 TX5 8, w ∈ am_ws := by
  show ∀ w ∈ [u_lay RX5 TX5 0, u_lay RX5 TX5 1, u_lay RX5 TX5 2, u_lay RX5 TX5 3, u_lay RX5 TX5 4, u_lay RX5 TX5 5, u_lay RX5 TX5 6, u_lay RX5 TX5 7], w ∈ am_ws
  exact List.forall_mem_cons.mpr ⟨am_in 202 (by decide +kernel) (by decide +kernel), List.forall_mem_cons.mpr ⟨am_in 204 (by decide +kernel) (by decide +kernel), List.forall_mem_cons.mpr ⟨am_in 206 (by decide +kernel) (by decide +kernel), List.forall_mem_cons.mpr ⟨am_in 208 (by decide +kernel) (by decide +kernel), List.forall_mem_cons.mpr ⟨am_in 210 (by decide +kernel) (by decide +kernel), List.forall_mem_cons.mpr ⟨am_in 212 (by decide +kernel) (by decide +kernel), List.forall_mem_cons.mpr ⟨am_in 214 (by decide +kernel) (by decide +kernel), List.forall_mem_cons.mpr ⟨am_in 216 (by decide +kernel) (by decide +kernel), fun _ h => absurd h List.not_mem_nil⟩⟩⟩⟩⟩⟩⟩⟩
theorem fxX5 : am_Fx 5 RX5 TX5 8 tyX5 := ⟨rfl, inX5, tyX5_ok, nmX5⟩
theorem dvX5_ok : ∀ (sA : Nat → Nat) (z : Nat) (j : Nat), j < 8 → defaultValue (tyX5 j) = vp_V (dvX5.map (am_tr sA z)) j := by
  intro sA z j hj
  rcases (show j = 0 ∨ j = 1 ∨ j = 2 ∨ j = 3 ∨ j = 4 ∨ j = 5 ∨ j = 6 ∨ j = 7 by omega) with rfl | rfl | rfl | rfl | rfl | rfl | rfl | rfl <;> rfl
theorem inX6 : ∀ w ∈ u_ws RX6 TX6 26, w ∈ am_ws := by
  show ∀ w ∈ [u_lay RX6 TX6 0, u_lay RX6 TX6 1, u_lay RX6 TX6 2, u_lay RX6 TX6 3, u_lay RX6 TX6 4, u_lay RX6 TX6 5, u_lay RX6 TX6 6, u_lay RX6 TX6 7, u_lay RX6 TX6 8, u_lay RX6 TX6 9, u_lay RX6 TX6 10, u_lay RX6 TX6 11, u_lay RX6 TX6 12, u_lay RX6 TX6 13, u_lay RX6 TX6 14, u_lay RX6 TX6 15, u_lay RX6 TX6 16, u_lay RX6 TX6 17, u_lay RX6 TX6 18, u_lay RX6 TX6 19, u_lay RX6 TX6 20, u_lay RX6 TX6 21, u_lay RX6 TX6 22, u_lay RX6 TX6 23, u_lay RX6 TX6 24, u_lay RX6 TX6 25], w ∈ am_ws
  exact List.forall_mem_cons.mpr ⟨am_in 670 (by decide +kernel) (by decide +kernel), List.forall_mem_cons.mpr ⟨am_in 672 (by decide +kernel) (by decide +kernel), List.forall_mem_cons.mpr ⟨am_in 674 (by decide +kernel) (by decide +kernel), List.forall_mem_cons.mpr ⟨am_in 676 (by decide +kernel) (by decide +kernel), List.forall_mem_cons.mpr ⟨am_in 678 (by decide +kernel) (by decide +kernel), List.forall_mem_cons.mpr ⟨am_in 680 (by decide +kernel) (by decide +kernel), List.forall_mem_cons.mpr ⟨am_in 682 (by decide +kernel) (by decide +kernel), List.forall_mem_cons.mpr ⟨am_in 684 (by decide +kernel) (by decide +kernel), List.forall_mem_cons.mpr ⟨am_in 686 (by decide +kernel) (by decide +kernel), List.forall_mem_cons.mpr ⟨am_in 688 (by decide +kernel) (by decide +kernel), List.forall_mem_cons.mpr ⟨am_in 690 (by decide +kernel) (by decide +kernel), List.forall_mem_cons.mpr ⟨am_in 692 (by decide +kernel) (by decide +kernel), List.forall_mem_cons.mpr ⟨am_in 694 (by decide +kernel) (by decide +kernel), List.forall_mem_cons.mpr ⟨am_in 696 (by decide +kernel) (by decide +kernel), List.forall_mem_cons.mpr ⟨am_in 698 (by decide +kernel) (by decide +kernel), List.forall_mem_cons.mpr ⟨am_in 700 (by decide +kernel) (by decide +kernel), List.forall_mem_cons.mpr ⟨am_in 702 (by decide +kernel) (by decide +kernel), List.forall_mem_cons.mpr ⟨am_in 704 (by decide +kernel) (by decide +kernel), List.forall_mem_cons.mpr ⟨am_in 706 (by decide +kernel) (by decide +kernel), List.forall_mem_cons.mpr ⟨am_in 708 (by decide +kernel) (by decide +kernel), List.forall_mem_cons.mpr ⟨am_in 710 (by decide +kernel) (by decide +kernel), List.forall_mem_cons.mpr ⟨am_in 712 (by decide +kernel) (by decide +kernel), List.forall_mem_cons.mpr ⟨am_in 714 (by decide +kernel) (by decide +kernel), List.forall_mem_cons.mpr ⟨am_in 716 (by decide +kernel) (by decide +kernel), List.forall_mem_cons.mpr ⟨am_in 718 (by decide +kernel) (by decide +kernel), List.forall_mem_cons.mpr ⟨am_in 720 (by decide +kernel) (by decide +kernel), fun _ h => absurd h List.not_mem_nil⟩⟩⟩⟩⟩⟩⟩⟩⟩⟩⟩⟩⟩⟩⟩⟩⟩⟩⟩⟩⟩⟩⟩⟩⟩⟩
theorem fxX6 : am_Fx 6 RX6 TX6 26 tyX6 := ⟨rfl, inX6, tyX6_ok, nmX6⟩
theorem dvX6_ok : ∀ (sA : Nat → Nat) (z : Nat) (j : Nat), j < 26 → defaultValue (tyX6 j) = vp_V (dvX6.map (am_tr sA z)) j := by
  intro sA z j hj
  rcases (show j = 0 ∨ j = 1 ∨ j = 2 ∨ j = 3 ∨ j = 4 ∨ j = 5 ∨ j = 6 ∨ j = 7 ∨ j = 8 ∨ j = 9 ∨ j = 10 ∨ j = 11 ∨ j = 12 ∨ j = 13 ∨ j = 14 ∨ j = 15 ∨ j = 16 ∨ j = 17 ∨ j = 18 ∨ j = 19 ∨ j = 20 ∨ j = 21 ∨ j = 22 ∨ j = 23 ∨ j = 24 ∨ j = 25 by omega) with rfl | rfl | rfl | rfl | rfl | rfl | rfl | rfl | rfl | rfl | rfl | rfl | rfl | rfl | rfl | rfl | rfl | rfl | rfl | rfl | rfl | rfl | rfl | rfl | rfl | rfl <;> rfl
theorem c_0 : am_Cl I_0 my_0 0 := ⟨rfl, by decide +kernel, w_626, w_503, ⟨by decide +kernel, by decide +kernel, by decide +kernel⟩, by decide, fun _ => rfl⟩
theorem c_1 : am_Cl I_1 my_1 0 := ⟨rfl, by decide +kernel, w_627, w_5, ⟨by decide +kernel, by decide +kernel, by decide +kernel⟩, by decide, fun _ => rfl⟩
theorem c_2 : am_Cl I_2 my_2 0 := ⟨rfl, by decide +kernel, w_628, w_43, ⟨by decide +kernel, by decide +kernel, by decide +kernel⟩, by decide, fun _ => rfl⟩
theorem c_3 : am_Cl I_3 my_3 0 := ⟨rfl, by decide +kernel, w_629, w_38, ⟨by decide +kernel, by decide +kernel, by decide +kernel⟩, by decide, fun _ => rfl⟩
theorem c_4 : am_Cl I_4 my_4 0 := ⟨rfl, by decide +kernel, w_630, w_11, ⟨by decide +kernel, by decide +kernel, by decide +kernel⟩, by decide, fun _ => rfl⟩
theorem c_5 : am_Cl I_5 my_5 0 := ⟨rfl, by decide +kernel, w_631, w_17, ⟨by decide +kernel, by decide +kernel, by decide +kernel⟩, by decide, fun _ => rfl⟩
theorem c_6 : am_Cl I_6 my_6 2 := ⟨rfl, by decide +kernel, w_632, w_503, ⟨by decide +kernel, by decide +kernel, by decide +kernel⟩, by decide, fun h => by cases h⟩
theorem c_7 : am_Cl I_7 my_7 2 := ⟨rfl, by decide +kernel, w_633, w_5, ⟨by decide +kernel, by decide +kernel, by decide +kernel⟩, by decide, fun h => by cases h⟩
theorem c_8 : am_Cl I_8 my_8 1 := ⟨rfl, by decide +kernel, w_634, w_503, ⟨by decide +kernel, by decide +kernel, by decide +kernel⟩, by decide, fun h => by cases h⟩
theorem c_9 : am_Cl I_9 my_9 3 := ⟨rfl, by decide +kernel, w_635, w_503, ⟨by decide +kernel, by decide +kernel, by decide +kernel⟩, by decide, fun h => by cases h⟩
theorem c_10 : am_Cl I_10 my_10 0 := ⟨rfl, by decide +kernel, w_636, w_5, ⟨by decide +kernel, by decide +kernel, by decide +kernel⟩, by decide, fun h => by cases h⟩
theorem c_11 : am_Cl I_11 my_11 4 := ⟨rfl, by decide +kernel, w_637, w_503, ⟨by decide +kernel, by decide +kernel, by decide +kernel⟩, by decide, fun h => by cases h⟩
theorem c_12 : am_Cl I_12 my_12 4 := ⟨rfl, by decide +kernel, w_638, w_5, ⟨by decide +kernel, by decide +kernel, by decide +kernel⟩, by decide, fun h => by cases h⟩
theorem c_13 : am_Cl I_13 my_13 1 := ⟨rfl, by decide +kernel, w_639, w_503, ⟨by decide +kernel, by decide +kernel, by decide +kernel⟩, by decide, fun h => by cases h⟩
theorem c_14 : am_Cl I_14 my_14 1 := ⟨rfl, by decide +kernel, w_640, w_5, ⟨by decide +kernel, by decide +kernel, by decide +kernel⟩, by decide, fun h => by cases h⟩
theorem c_15 : am_Cl I_15 my_15 1 := ⟨rfl, by decide +kernel, w_641, w_5, ⟨by decide +kernel, by decide +kernel, by decide +kernel⟩, by decide, fun h => by cases h⟩
theorem c_16 : am_Cl I_16 my_16 1 := ⟨rfl, by decide +kernel, w_642, w_5, ⟨by decide +kernel, by decide +kernel, by decide +kernel⟩, by decide, fun h => by cases h⟩
theorem c_17 : am_Cl I_17 my_17 4 := ⟨rfl, by decide +kernel, w_643, w_43, ⟨by decide +kernel, by decide +kernel, by decide +kernel⟩, by decide, fun h => by cases h⟩
theorem c_18 : am_Cl I_18 my_18 1 := ⟨rfl, by decide +kernel, w_644, w_43, ⟨by decide +kernel, by decide +kernel, by decide +kernel⟩, by decide, fun h => by cases h⟩
theorem c_19 : am_Cl I_19 my_19 2 := ⟨rfl, by decide +kernel, w_645, w_646, ⟨by decide +kernel, by decide +kernel, by decide +kernel⟩, by decide, fun h => by cases h⟩
theorem c_20 : am_Cl I_20 my_20 5 := ⟨rfl, by decide +kernel, w_647, w_503, ⟨by decide +kernel, by decide +kernel, by decide +kernel⟩, by decide, fun h => by cases h⟩
theorem c_21 : am_Cl I_21 my_21 1 := ⟨rfl, by decide +kernel, w_648, w_5, ⟨by decide +kernel, by decide +kernel, by decide +kernel⟩, by decide, fun h => by cases h⟩
theorem c_22 : am_Cl I_22 my_22 1 := ⟨rfl, by decide +kernel, w_649, w_5, ⟨by decide +kernel, by decide +kernel, by decide +kernel⟩, by decide, fun h => by cases h⟩
theorem c_23 : am_Cl I_23 my_23 4 := ⟨rfl, by decide +kernel, w_650, w_38, ⟨by decide +kernel, by decide +kernel, by decide +kernel⟩, by decide, fun h => by cases h⟩
theorem c_24 : am_Cl I_24 my_24 2 := ⟨rfl, by decide +kernel, w_651, w_503, ⟨by decide +kernel, by decide +kernel, by decide +kernel⟩, by decide, fun h => by cases h⟩
theorem c_25 : am_Cl I_25 my_25 2 := ⟨rfl, by decide +kernel, w_652, w_503, ⟨by decide +kernel, by decide +kernel, by decide +kernel⟩, by decide, fun h => by cases h⟩
theorem c_26 : am_Cl I_26 my_26 1 := ⟨rfl, by decide +kernel, w_653, w_38, ⟨by decide +kernel, by decide +kernel, by decide +kernel⟩, by decide, fun h => by cases h⟩
theorem c_27 : am_Cl I_27 my_27 3 := ⟨rfl, by decide +kernel, w_654, w_503, ⟨by decide +kernel, by decide +kernel, by decide +kernel⟩, by decide, fun h => by cases h⟩
theorem c_28 : am_Cl I_28 my_28 2 := ⟨rfl, by decide +kernel, w_655, w_5, ⟨by decide +kernel, by decide +kernel, by decide +kernel⟩, by decide, fun h => by cases h⟩
theorem c_29 : am_Cl I_29 my_29 4 := ⟨rfl, by decide +kernel, w_656, w_5, ⟨by decide +kernel, by decide +kernel, by decide +kernel⟩, by decide, fun h => by cases h⟩
theorem c_30 : am_Cl I_30 my_30 2 := ⟨rfl, by decide +kernel, w_657, w_5, ⟨by decide +kernel, by decide +kernel, by decide +kernel⟩, by decide, fun h => by cases h⟩
theorem c_31 : am_Cl I_31 my_31 0 := ⟨rfl, by decide +kernel, w_658, w_503, ⟨by decide +kernel, by decide +kernel, by decide +kernel⟩, by decide, fun h => by cases h⟩
theorem c_32 : am_Cl I_32 my_32 1 := ⟨rfl, by decide +kernel, w_659, w_5, ⟨by decide +kernel, by decide +kernel, by decide +kernel⟩, by decide, fun h => by cases h⟩
theorem c_33 : am_Cl I_33 my_33 0 := ⟨rfl, by decide +kernel, w_660, w_5, ⟨by decide +kernel, by decide +kernel, by decide +kernel⟩, by decide, fun h => by cases h⟩
theorem c_34 : am_Cl I_34 my_34 0 := ⟨rfl, by decide +kernel, w_661, w_38, ⟨by decide +kernel, by decide +kernel, by decide +kernel⟩, by decide, fun h => by cases h⟩
theorem c_35 : am_Cl I_35 my_35 1 := ⟨rfl, by decide +kernel, w_662, w_503, ⟨by decide +kernel, by decide +kernel, by decide +kernel⟩, by decide, fun h => by cases h⟩
theorem c_36 : am_Cl I_36 my_36 0 := ⟨rfl, by decide +kernel, w_663, w_43, ⟨by decide +kernel, by decide +kernel, by decide +kernel⟩, by decide, fun h => by cases h⟩
theorem c_37 : am_Cl I_37 my_37 0 := ⟨rfl, by decide +kernel, w_664, w_43, ⟨by decide +kernel, by decide +kernel, by decide +kernel⟩, by decide, fun h => by cases h⟩
theorem c_38 : am_Cl I_38 my_38 2 := ⟨rfl, by decide +kernel, w_665, w_5, ⟨by decide +kernel, by decide +kernel, by decide +kernel⟩, by decide, fun h => by cases h⟩
theorem c_39 : am_Cl I_39 my_39 0 := ⟨rfl, by decide +kernel, w_666, w_43, ⟨by decide +kernel, by decide +kernel, by decide +kernel⟩, by decide, fun h => by cases h⟩
theorem c_40 : am_Cl I_40 my_40 0 := ⟨rfl, by decide +kernel, w_667, w_43, ⟨by decide +kernel, by decide +kernel, by decide +kernel⟩, by decide, fun h => by cases h⟩
theorem c_41 : am_Cl I_41 my_41 0 := ⟨rfl, by decide +kernel, w_668, w_5, ⟨by decide +kernel, by decide +kernel, by decide +kernel⟩, by decide, fun h => by cases h⟩
theorem c_42 : am_Cl I_42 my_42 0 := ⟨rfl, by decide +kernel, w_669, w_5, ⟨by decide +kernel, by decide +kernel, by decide +kernel⟩, by decide, fun h => by cases h⟩
theorem c_43 : am_Cl I_43 my_43 0 := ⟨rfl, by decide +kernel, w_670, w_503, ⟨by decide +kernel, by decide +kernel, by decide +kernel⟩, by decide, fun h => by cases h⟩
theorem c_44 : am_Cl I_44 my_44 4 := ⟨rfl, by decide +kernel, w_671, w_503, ⟨by decide +kernel, by decide +kernel, by decide +kernel⟩, by decide, fun h => by cases h⟩
theorem c_45 : am_Cl I_45 my_45 2 := ⟨rfl, by decide +kernel, w_672, w_43, ⟨by decide +kernel, by decide +kernel, by decide +kernel⟩, by decide, fun h => by cases h⟩
theorem c_46 : am_Cl I_46 my_46 2 := ⟨rfl, by decide +kernel, w_673, w_5, ⟨by decide +kernel, by decide +kernel, by decide +kernel⟩, by decide, fun h => by cases h⟩
theorem c_47 : am_Cl I_47 my_47 3 := ⟨rfl, by decide +kernel, w_674, w_43, ⟨by decide +kernel, by decide +kernel, by decide +kernel⟩, by decide, fun h => by cases h⟩
theorem c_48 : am_Cl I_48 my_48 3 := ⟨rfl, by decide +kernel, w_675, w_503, ⟨by decide +kernel, by decide +kernel, by decide +kernel⟩, by decide, fun h => by cases h⟩
theorem c_49 : am_Cl I_49 my_49 3 := ⟨rfl, by decide +kernel, w_676, w_5, ⟨by decide +kernel, by decide +kernel, by decide +kernel⟩, by decide, fun h => by cases h⟩
theorem c_50 : am_Cl I_50 my_50 2 := ⟨rfl, by decide +kernel, w_677, w_43, ⟨by decide +kernel, by decide +kernel, by decide +kernel⟩, by decide, fun h => by cases h⟩
theorem c_51 : am_Cl I_51 my_51 4 := ⟨rfl, by decide +kernel, w_678, w_503, ⟨by decide +kernel, by decide +kernel, by decide +kernel⟩, by decide, fun h => by cases h⟩
theorem c_52 : am_Cl I_52 my_52 3 := ⟨rfl, by decide +kernel, w_679, w_11, ⟨by decide +kernel, by decide +kernel, by decide +kernel⟩, by decide, fun h => by cases h⟩
theorem c_53 : am_Cl I_53 my_53 3 := ⟨rfl, by decide +kernel, w_680, w_503, ⟨by decide +kernel, by decide +kernel, by decide +kernel⟩, by decide, fun h => by cases h⟩
theorem c_54 : am_Cl I_54 my_54 1 := ⟨rfl, by decide +kernel, w_681, w_503, ⟨by decide +kernel, by decide +kernel, by decide +kernel⟩, by decide, fun h => by cases h⟩
theorem c_55 : am_Cl I_55 my_55 1 := ⟨rfl, by decide +kernel, w_682, w_503, ⟨by decide +kernel, by decide +kernel, by decide +kernel⟩, by decide, fun h => by cases h⟩
theorem c_56 : am_Cl I_56 my_56 0 := ⟨rfl, by decide +kernel, w_683, w_11, ⟨by decide +kernel, by decide +kernel, by decide +kernel⟩, by decide, fun h => by cases h⟩
theorem c_57 : am_Cl I_57 my_57 4 := ⟨rfl, by decide +kernel, w_684, w_503, ⟨by decide +kernel, by decide +kernel, by decide +kernel⟩, by decide, fun h => by cases h⟩
theorem c_58 : am_Cl I_58 my_58 4 := ⟨rfl, by decide +kernel, w_685, w_43, ⟨by decide +kernel, by decide +kernel, by decide +kernel⟩, by decide, fun h => by cases h⟩
theorem c_59 : am_Cl I_59 my_59 1 := ⟨rfl, by decide +kernel, w_686, w_11, ⟨by decide +kernel, by decide +kernel, by decide +kernel⟩, by decide, fun h => by cases h⟩
theorem c_60 : am_Cl I_60 my_60 2 := ⟨rfl, by decide +kernel, w_687, w_503, ⟨by decide +kernel, by decide +kernel, by decide +kernel⟩, by decide, fun h => by cases h⟩
theorem c_61 : am_Cl I_61 my_61 0 := ⟨rfl, by decide +kernel, w_688, w_503, ⟨by decide +kernel, by decide +kernel, by decide +kernel⟩, by decide, fun h => by cases h⟩
theorem c_62 : am_Cl I_62 my_62 0 := ⟨rfl, by decide +kernel, w_689, w_503, ⟨by decide +kernel, by decide +kernel, by decide +kernel⟩, by decide, fun h => by cases h⟩
theorem c_63 : am_Cl I_63 my_63 1 := ⟨rfl, by decide +kernel, w_690, w_503, ⟨by decide +kernel, by decide +kernel, by decide +kernel⟩, by decide, fun h => by cases h⟩
theorem c_64 : am_Cl I_64 my_64 1 := ⟨rfl, by decide +kernel, w_691, w_5, ⟨by decide +kernel, by decide +kernel, by decide +kernel⟩, by decide, fun h => by cases h⟩
theorem c_65 : am_Cl I_65 my_65 1 := ⟨rfl, by decide +kernel, w_692, w_503, ⟨by decide +kernel, by decide +kernel, by decide +kernel⟩, by decide, fun h => by cases h⟩
theorem c_66 : am_Cl I_66 my_66 1 := ⟨rfl, by decide +kernel, w_693, w_5, ⟨by decide +kernel, by decide +kernel, by decide +kernel⟩, by decide, fun h => by cases h⟩
theorem c_67 : am_Cl I_67 my_67 0 := ⟨rfl, by decide +kernel, w_694, w_17, ⟨by decide +kernel, by decide +kernel, by decide +kernel⟩, by decide, fun h => by cases h⟩
theorem c_68 : am_Cl I_68 my_68 1 := ⟨rfl, by decide +kernel, w_695, w_17, ⟨by decide +kernel, by decide +kernel, by decide +kernel⟩, by decide, fun h => by cases h⟩
theorem c_69 : am_Cl I_69 my_69 2 := ⟨rfl, by decide +kernel, w_696, w_17, ⟨by decide +kernel, by decide +kernel, by decide +kernel⟩, by decide, fun h => by cases h⟩
theorem c_70 : am_Cl I_70 my_70 1 := ⟨rfl, by decide +kernel, w_697, w_17, ⟨by decide +kernel, by decide +kernel, by decide +kernel⟩, by decide, fun h => by cases h⟩
theorem c_71 : am_Cl I_71 my_71 2 := ⟨rfl, by decide +kernel, w_698, w_17, ⟨by decide +kernel, by decide +kernel, by decide +kernel⟩, by decide, fun h => by cases h⟩
theorem c_72 : am_Cl I_72 my_72 1 := ⟨rfl, by decide +kernel, w_699, w_17, ⟨by decide +kernel, by decide +kernel, by decide +kernel⟩, by decide, fun h => by cases h⟩
theorem c_73 : am_Cl I_73 my_73 1 := ⟨rfl, by decide +kernel, w_700, w_38, ⟨by decide +kernel, by decide +kernel, by decide +kernel⟩, by decide, fun h => by cases h⟩
theorem c_74 : am_Cl I_74 my_74 0 := ⟨rfl, by decide +kernel, w_701, w_17, ⟨by decide +kernel, by decide +kernel, by decide +kernel⟩, by decide, fun h => by cases h⟩
theorem c_75 : am_Cl I_75 my_75 3 := ⟨rfl, by decide +kernel, w_702, w_5, ⟨by decide +kernel, by decide +kernel, by decide +kernel⟩, by decide, fun h => by cases h⟩
theorem c_76 : am_Cl I_76 my_76 1 := ⟨rfl, by decide +kernel, w_703, w_5, ⟨by decide +kernel, by decide +kernel, by decide +kernel⟩, by decide, fun h => by cases h⟩
theorem c_77 : am_Cl I_77 my_77 2 := ⟨rfl, by decide +kernel, w_704, w_43, ⟨by decide +kernel, by decide +kernel, by decide +kernel⟩, by decide, fun h => by cases h⟩
theorem c_78 : am_Cl I_78 my_78 3 := ⟨rfl, by decide +kernel, w_705, w_5, ⟨by decide +kernel, by decide +kernel, by decide +kernel⟩, by decide, fun h => by cases h⟩
theorem c_79 : am_Cl I_79 my_79 1 := ⟨rfl, by decide +kernel, w_706, w_17, ⟨by decide +kernel, by decide +kernel, by decide +kernel⟩, by decide, fun h => by cases h⟩
theorem c_80 : am_Cl I_80 my_80 2 := ⟨rfl, by decide +kernel, w_707, w_503, ⟨by decide +kernel, by decide +kernel, by decide +kernel⟩, by decide, fun h => by cases h⟩
theorem c_81 : am_Cl I_81 my_81 0 := ⟨rfl, by decide +kernel, w_708, w_503, ⟨by decide +kernel, by decide +kernel, by decide +kernel⟩, by decide, fun h => by cases h⟩
theorem c_82 : am_Cl I_82 my_82 0 := ⟨rfl, by decide +kernel, w_709, w_503, ⟨by decide +kernel, by decide +kernel, by decide +kernel⟩, by decide, fun h => by cases h⟩
theorem c_83 : am_Cl I_83 my_83 0 := ⟨rfl, by decide +kernel, w_710, w_5, ⟨by decide +kernel, by decide +kernel, by decide +kernel⟩, by decide, fun h => by cases h⟩
theorem c_84 : am_Cl I_84 my_84 0 := ⟨rfl, by decide +kernel, w_711, w_38, ⟨by decide +kernel, by decide +kernel, by decide +kernel⟩, by decide, fun h => by cases h⟩
theorem c_85 : am_Cl I_85 my_85 1 := ⟨rfl, by decide +kernel, w_712, w_5, ⟨by decide +kernel, by decide +kernel, by decide +kernel⟩, by decide, fun h => by cases h⟩
theorem c_86 : am_Cl I_86 my_86 0 := ⟨rfl, by decide +kernel, w_713, w_17, ⟨by decide +kernel, by decide +kernel, by decide +kernel⟩, by decide, fun h => by cases h⟩
theorem c_87 : am_Cl I_87 my_87 0 := ⟨rfl, by decide +kernel, w_714, w_17, ⟨by decide +kernel, by decide +kernel, by decide +kernel⟩, by decide, fun h => by cases h⟩
theorem c_88 : am_Cl I_88 my_88 1 := ⟨rfl, by decide +kernel, w_715, w_17, ⟨by decide +kernel, by decide +kernel, by decide +kernel⟩, by decide, fun h => by cases h⟩
theorem c_89 : am_Cl I_89 my_89 1 := ⟨rfl, by decide +kernel, w_716, w_5, ⟨by decide +kernel, by decide +kernel, by decide +kernel⟩, by decide, fun h => by cases h⟩
theorem c_90 : am_Cl I_90 my_90 0 := ⟨rfl, by decide +kernel, w_717, w_17, ⟨by decide +kernel, by decide +kernel, by decide +kernel⟩, by decide, fun h => by cases h⟩
theorem c_91 : am_Cl I_91 my_91 0 := ⟨rfl, by decide +kernel, w_718, w_17, ⟨by decide +kernel, by decide +kernel, by decide +kernel⟩, by decide, fun h => by cases h⟩
theorem c_92 : am_Cl I_92 my_92 1 := ⟨rfl, by decide +kernel, w_719, w_38, ⟨by decide +kernel, by decide +kernel, by decide +kernel⟩, by decide, fun h => by cases h⟩
theorem c_93 : am_Cl I_93 my_93 1 := ⟨rfl, by decide +kernel, w_720, w_17, ⟨by decide +kernel, by decide +kernel, by decide +kernel⟩, by decide, fun h => by cases h⟩
theorem c_94 : am_Cl I_94 my_94 0 := ⟨rfl, by decide +kernel, w_721, w_17, ⟨by decide +kernel, by decide +kernel, by decide +kernel⟩, by decide, fun h => by cases h⟩
theorem c_95 : am_Cl I_95 my_95 1 := ⟨rfl, by decide +kernel, w_722, w_5, ⟨by decide +kernel, by decide +kernel, by decide +kernel⟩, by decide, fun h => by cases h⟩
theorem c_96 : am_Cl I_96 my_96 2 := ⟨rfl, by decide +kernel, w_723, w_5, ⟨by decide +kernel, by decide +kernel, by decide +kernel⟩, by decide, fun h => by cases h⟩
theorem c_97 : am_Cl I_97 my_97 1 := ⟨rfl, by decide +kernel, w_724, w_5, ⟨by decide +kernel, by decide +kernel, by decide +kernel⟩, by decide, fun h => by cases h⟩
theorem c_98 : am_Cl I_98 my_98 2 := ⟨rfl, by decide +kernel, w_725, w_43, ⟨by decide +kernel, by decide +kernel, by decide +kernel⟩, by decide, fun h => by cases h⟩
theorem c_99 : am_Cl I_99 my_99 3 := ⟨rfl, by decide +kernel, w_726, w_5, ⟨by decide +kernel, by decide +kernel, by decide +kernel⟩, by decide, fun h => by cases h⟩
theorem c_100 : am_Cl I_100 my_100 1 := ⟨rfl, by decide +kernel, w_727, w_17, ⟨by decide +kernel, by decide +kernel, by decide +kernel⟩, by decide, fun h => by cases h⟩
theorem c_101 : am_Cl I_101 my_101 0 := ⟨rfl, by decide +kernel, w_728, w_506, ⟨by decide +kernel, by decide +kernel, by decide +kernel⟩, by decide, fun _ => rfl⟩
theorem c_102 : am_Cl I_102 my_102 2 := ⟨rfl, by decide +kernel, w_729, w_506, ⟨by decide +kernel, by decide +kernel, by decide +kernel⟩, by decide, fun h => by cases h⟩
theorem c_103 : am_Cl I_103 my_103 1 := ⟨rfl, by decide +kernel, w_730, w_506, ⟨by decide +kernel, by decide +kernel, by decide +kernel⟩, by decide, fun h => by cases h⟩
theorem c_104 : am_Cl I_104 my_104 3 := ⟨rfl, by decide +kernel, w_731, w_506, ⟨by decide +kernel, by decide +kernel, by decide +kernel⟩, by decide, fun h => by cases h⟩
theorem c_105 : am_Cl I_105 my_105 1 := ⟨rfl, by decide +kernel, w_732, w_506, ⟨by decide +kernel, by decide +kernel, by decide +kernel⟩, by decide, fun h => by cases h⟩
theorem c_106 : am_Cl I_106 my_106 4 := ⟨rfl, by decide +kernel, w_733, w_506, ⟨by decide +kernel, by decide +kernel, by decide +kernel⟩, by decide, fun h => by cases h⟩
theorem c_107 : am_Cl I_107 my_107 1 := ⟨rfl, by decide +kernel, w_734, w_506, ⟨by decide +kernel, by decide +kernel, by decide +kernel⟩, by decide, fun h => by cases h⟩
theorem c_108 : am_Cl I_108 my_108 3 := ⟨rfl, by decide +kernel, w_735, w_506, ⟨by decide +kernel, by decide +kernel, by decide +kernel⟩, by decide, fun h => by cases h⟩
theorem c_109 : am_Cl I_109 my_109 2 := ⟨rfl, by decide +kernel, w_736, w_506, ⟨by decide +kernel, by decide +kernel, by decide +kernel⟩, by decide, fun h => by cases h⟩
theorem c_110 : am_Cl I_110 my_110 1 := ⟨rfl, by decide +kernel, w_737, w_506, ⟨by decide +kernel, by decide +kernel, by decide +kernel⟩, by decide, fun h => by cases h⟩
theorem c_111 : am_Cl I_111 my_111 5 := ⟨rfl, by decide +kernel, w_738, w_506, ⟨by decide +kernel, by decide +kernel, by decide +kernel⟩, by decide, fun h => by cases h⟩
theorem c_112 : am_Cl I_112 my_112 1 := ⟨rfl, by decide +kernel, w_739, w_506, ⟨by decide +kernel, by decide +kernel, by decide +kernel⟩, by decide, fun h => by cases h⟩
theorem c_113 : am_Cl I_113 my_113 2 := ⟨rfl, by decide +kernel, w_740, w_506, ⟨by decide +kernel, by decide +kernel, by decide +kernel⟩, by decide, fun h => by cases h⟩
theorem c_114 : am_Cl I_114 my_114 2 := ⟨rfl, by decide +kernel, w_741, w_506, ⟨by decide +kernel, by decide +kernel, by decide +kernel⟩, by decide, fun h => by cases h⟩
theorem c_115 : am_Cl I_115 my_115 2 := ⟨rfl, by decide +kernel, w_742, w_506, ⟨by decide +kernel, by decide +kernel, by decide +kernel⟩, by decide, fun h => by cases h⟩
theorem c_116 : am_Cl I_116 my_116 3 := ⟨rfl, by decide +kernel, w_743, w_506, ⟨by decide +kernel, by decide +kernel, by decide +kernel⟩, by decide, fun h => by cases h⟩
theorem c_117 : am_Cl I_117 my_117 0 := ⟨rfl, by decide +kernel, w_744, w_506, ⟨by decide +kernel, by decide +kernel, by decide +kernel⟩, by decide, fun h => by cases h⟩
theorem c_118 : am_Cl I_118 my_118 2 := ⟨rfl, by decide +kernel, w_745, w_506, ⟨by decide +kernel, by decide +kernel, by decide +kernel⟩, by decide, fun h => by cases h⟩
theorem c_119 : am_Cl I_119 my_119 2 := ⟨rfl, by decide +kernel, w_746, w_506, ⟨by decide +kernel, by decide +kernel, by decide +kernel⟩, by decide, fun h => by cases h⟩
theorem c_120 : am_Cl I_120 my_120 2 := ⟨rfl, by decide +kernel, w_747, w_506, ⟨by decide +kernel, by decide +kernel, by decide +kernel⟩, by decide, fun h => by cases h⟩
theorem c_121 : am_Cl I_121 my_121 3 := ⟨rfl, by decide +kernel, w_748, w_506, ⟨by decide +kernel, by decide +kernel, by decide +kernel⟩, by decide, fun h => by cases h⟩
theorem c_122 : am_Cl I_122 my_122 1 := ⟨rfl, by decide +kernel, w_749, w_506, ⟨by decide +kernel, by decide +kernel, by decide +kernel⟩, by decide, fun h => by cases h⟩
theorem c_123 : am_Cl I_123 my_123 2 := ⟨rfl, by decide +kernel, w_750, w_506, ⟨by decide +kernel, by decide +kernel, by decide +kernel⟩, by decide, fun h => by cases h⟩
theorem c_124 : am_Cl I_124 my_124 2 := ⟨rfl, by decide +kernel, w_751, w_506, ⟨by decide +kernel, by decide +kernel, by decide +kernel⟩, by decide, fun h => by cases h⟩
theorem c_125 : am_Cl I_125 my_125 2 := ⟨rfl, by decide +kernel, w_752, w_506, ⟨by decide +kernel, by decide +kernel, by decide +kernel⟩, by decide, fun h => by cases h⟩
theorem c_126 : am_Cl I_126 my_126 1 := ⟨rfl, by decide +kernel, w_753, w_506, ⟨by decide +kernel, by decide +kernel, by decide +kernel⟩, by decide, fun h => by cases h⟩
theorem c_127 : am_Cl I_127 my_127 1 := ⟨rfl, by decide +kernel, w_754, w_506, ⟨by decide +kernel, by decide +kernel, by decide +kernel⟩, by decide, fun h => by cases h⟩
theorem c_128 : am_Cl I_128 my_128 1 := ⟨rfl, by decide +kernel, w_755, w_506, ⟨by decide +kernel, by decide +kernel, by decide +kernel⟩, by decide, fun h => by cases h⟩
theorem c_129 : am_Cl I_129 my_129 0 := ⟨rfl, by decide +kernel, w_756, w_506, ⟨by decide +kernel, by decide +kernel, by decide +kernel⟩, by decide, fun h => by cases h⟩
theorem c_130 : am_Cl I_130 my_130 4 := ⟨rfl, by decide +kernel, w_757, w_506, ⟨by decide +kernel, by decide +kernel, by decide +kernel⟩, by decide, fun h => by cases h⟩
theorem c_131 : am_Cl I_131 my_131 4 := ⟨rfl, by decide +kernel, w_758, w_506, ⟨by decide +kernel, by decide +kernel, by decide +kernel⟩, by decide, fun h => by cases h⟩
theorem c_132 : am_Cl I_132 my_132 2 := ⟨rfl, by decide +kernel, w_759, w_506, ⟨by decide +kernel, by decide +kernel, by decide +kernel⟩, by decide, fun h => by cases h⟩
theorem c_133 : am_Cl I_133 my_133 3 := ⟨rfl, by decide +kernel, w_760, w_506, ⟨by decide +kernel, by decide +kernel, by decide +kernel⟩, by decide, fun h => by cases h⟩
theorem c_134 : am_Cl I_134 my_134 3 := ⟨rfl, by decide +kernel, w_761, w_506, ⟨by decide +kernel, by decide +kernel, by decide +kernel⟩, by decide, fun h => by cases h⟩
theorem c_135 : am_Cl I_135 my_135 4 := ⟨rfl, by decide +kernel, w_762, w_506, ⟨by decide +kernel, by decide +kernel, by decide +kernel⟩, by decide, fun h => by cases h⟩
theorem c_136 : am_Cl I_136 my_136 3 := ⟨rfl, by decide +kernel, w_763, w_506, ⟨by decide +kernel, by decide +kernel, by decide +kernel⟩, by decide, fun h => by cases h⟩
theorem c_137 : am_Cl I_137 my_137 2 := ⟨rfl, by decide +kernel, w_764, w_506, ⟨by decide +kernel, by decide +kernel, by decide +kernel⟩, by decide, fun h => by cases h⟩
theorem c_138 : am_Cl I_138 my_138 2 := ⟨rfl, by decide +kernel, w_765, w_506, ⟨by decide +kernel, by decide +kernel, by decide +kernel⟩, by decide, fun h => by cases h⟩
theorem c_139 : am_Cl I_139 my_139 3 := ⟨rfl, by decide +kernel, w_766, w_506, ⟨by decide +kernel, by decide +kernel, by decide +kernel⟩, by decide, fun h => by cases h⟩
theorem c_140 : am_Cl I_140 my_140 2 := ⟨rfl, by decide +kernel, w_767, w_506, ⟨by decide +kernel, by decide +kernel, by decide +kernel⟩, by decide, fun h => by cases h⟩
theorem c_141 : am_Cl I_141 my_141 0 := ⟨rfl, by decide +kernel, w_768, w_506, ⟨by decide +kernel, by decide +kernel, by decide +kernel⟩, by decide, fun h => by cases h⟩
theorem c_142 : am_Cl I_142 my_142 0 := ⟨rfl, by decide +kernel, w_769, w_506, ⟨by decide +kernel, by decide +kernel, by decide +kernel⟩, by decide, fun h => by cases h⟩
theorem c_143 : am_Cl I_143 my_143 1 := ⟨rfl, by decide +kernel, w_770, w_506, ⟨by decide +kernel, by decide +kernel, by decide +kernel⟩, by decide, fun h => by cases h⟩
theorem c_144 : am_Cl I_144 my_144 1 := ⟨rfl, by decide +kernel, w_771, w_506, ⟨by decide +kernel, by decide +kernel, by decide +kernel⟩, by decide, fun h => by cases h⟩
theorem c_145 : am_Cl I_145 my_145 1 := ⟨rfl, by decide +kernel, w_772, w_506, ⟨by decide +kernel, by decide +kernel, by decide +kernel⟩, by decide, fun h => by cases h⟩
theorem c_146 : am_Cl I_146 my_146 2 := ⟨rfl, by decide +kernel, w_773, w_506, ⟨by decide +kernel, by decide +kernel, by decide +kernel⟩, by decide, fun h => by cases h⟩
theorem c_147 : am_Cl I_147 my_147 1 := ⟨rfl, by decide +kernel, w_774, w_506, ⟨by decide +kernel, by decide +kernel, by decide +kernel⟩, by decide, fun h => by cases h⟩
theorem c_148 : am_Cl I_148 my_148 2 := ⟨rfl, by decide +kernel, w_775, w_506, ⟨by decide +kernel, by decide +kernel, by decide +kernel⟩, by decide, fun h => by cases h⟩
theorem c_149 : am_Cl I_149 my_149 1 := ⟨rfl, by decide +kernel, w_776, w_506, ⟨by decide +kernel, by decide +kernel, by decide +kernel⟩, by decide, fun h => by cases h⟩
theorem c_150 : am_Cl I_150 my_150 2 := ⟨rfl, by decide +kernel, w_777, w_506, ⟨by decide +kernel, by decide +kernel, by decide +kernel⟩, by decide, fun h => by cases h⟩
theorem c_151 : am_Cl I_151 my_151 1 := ⟨rfl, by decide +kernel, w_778, w_506, ⟨by decide +kernel, by decide +kernel, by decide +kernel⟩, by decide, fun h => by cases h⟩
theorem c_152 : am_Cl I_152 my_152 2 := ⟨rfl, by decide +kernel, w_779, w_506, ⟨by decide +kernel, by decide +kernel, by decide +kernel⟩, by decide, fun h => by cases h⟩
theorem c_153 : am_Cl I_153 my_153 4 := ⟨rfl, by decide +kernel, w_780, w_506, ⟨by decide +kernel, by decide +kernel, by decide +kernel⟩, by decide, fun h => by cases h⟩
theorem c_154 : am_Cl I_154 my_154 2 := ⟨rfl, by decide +kernel, w_781, w_506, ⟨by decide +kernel, by decide +kernel, by decide +kernel⟩, by decide, fun h => by cases h⟩
theorem c_155 : am_Cl I_155 my_155 0 := ⟨rfl, by decide +kernel, w_782, w_506, ⟨by decide +kernel, by decide +kernel, by decide +kernel⟩, by decide, fun h => by cases h⟩
theorem c_156 : am_Cl I_156 my_156 0 := ⟨rfl, by decide +kernel, w_783, w_506, ⟨by decide +kernel, by decide +kernel, by decide +kernel⟩, by decide, fun h => by cases h⟩
theorem c_157 : am_Cl I_157 my_157 1 := ⟨rfl, by decide +kernel, w_784, w_506, ⟨by decide +kernel, by decide +kernel, by decide +kernel⟩, by decide, fun h => by cases h⟩
theorem c_158 : am_Cl I_158 my_158 1 := ⟨rfl, by decide +kernel, w_785, w_506, ⟨by decide +kernel, by decide +kernel, by decide +kernel⟩, by decide, fun h => by cases h⟩
theorem c_159 : am_Cl I_159 my_159 1 := ⟨rfl, by decide +kernel, w_786, w_506, ⟨by decide +kernel, by decide +kernel, by decide +kernel⟩, by decide, fun h => by cases h⟩
theorem c_160 : am_Cl I_160 my_160 1 := ⟨rfl, by decide +kernel, w_787, w_506, ⟨by decide +kernel, by decide +kernel, by decide +kernel⟩, by decide, fun h => by cases h⟩
theorem c_161 : am_Cl I_161 my_161 0 := ⟨rfl, by decide +kernel, w_788, w_506, ⟨by decide +kernel, by decide +kernel, by decide +kernel⟩, by decide, fun h => by cases h⟩
theorem c_162 : am_Cl I_162 my_162 2 := ⟨rfl, by decide +kernel, w_789, w_506, ⟨by decide +kernel, by decide +kernel, by decide +kernel⟩, by decide, fun h => by cases h⟩
theorem c_163 : am_Cl I_163 my_163 1 := ⟨rfl, by decide +kernel, w_790, w_506, ⟨by decide +kernel, by decide +kernel, by decide +kernel⟩, by decide, fun h => by cases h⟩
theorem c_164 : am_Cl I_164 my_164 2 := ⟨rfl, by decide +kernel, w_791, w_506, ⟨by decide +kernel, by decide +kernel, by decide +kernel⟩, by decide, fun h => by cases h⟩
theorem c_165 : am_Cl I_165 my_165 1 := ⟨rfl, by decide +kernel, w_792, w_506, ⟨by decide +kernel, by decide +kernel, by decide +kernel⟩, by decide, fun h => by cases h⟩
theorem c_166 : am_Cl I_166 my_166 4 := ⟨rfl, by decide +kernel, w_793, w_506, ⟨by decide +kernel, by decide +kernel, by decide +kernel⟩, by decide, fun h => by cases h⟩
