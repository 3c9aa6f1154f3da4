/-! the law: what its bytes say (2) -/
def laD4 : List (Nat × Instr × Nat) := [(510, .iconst 1, 1), (511, .iadd, 1), (512, .iaload, 1), (513, .aload_n 0, 1), (514, .iload_n 3, 1), (515, .iconst 2, 1), (516, .iadd, 1), (517, .iaload, 1), (518, .invokevirtual 49, 3), (521, .aload_n 2, 1), (522, .aload_n 0, 1), (523, .iload_n 3, 1), (524, .iconst 1, 1), (525, .iadd, 1), (526, .iaload, 1), (527, .aload_n 0, 1), (528, .iload_n 3, 1), (529, .iconst 2, 1), (530, .iadd, 1), (531, .iaload, 1), (532, .invokevirtual 52, 3), (535, .if_icmp .eq 910, 3), (540, .aload_n 1, 1), (541, .aload_n 0, 1), (542, .iload_n 3, 1), (543, .iconst 1, 1), (544, .iadd, 1), (545, .iaload, 1), (546, .aload_n 0, 1), (547, .iload_n 3, 1), (548, .iconst 2, 1), (549, .iadd, 1), (550, .iaload, 1), (551, .invokevirtual 53, 3), (554, .aload_n 2, 1), (555, .aload_n 0, 1), (556, .iload_n 3, 1), (557, .iconst 1, 1), (558, .iadd, 1), (559, .iaload, 1), (560, .aload_n 0, 1), (561, .iload_n 3, 1), (562, .iconst 2, 1), (563, .iadd, 1), (564, .iaload, 1), (565, .invokevirtual 56, 3), (568, .if_icmp .eq 877, 3), (573, .aload_n 1, 1), (574, .aload_n 0, 1), (575, .iload_n 3, 1), (576, .iconst 1, 1), (577, .iadd, 1), (578, .iaload, 1), (579, .aload_n 0, 1), (580, .iload_n 3, 1), (581, .iconst 2, 1), (582, .iadd, 1), (583, .iaload, 1), (584, .invokevirtual 57, 3), (587, .aload_n 2, 1), (588, .aload_n 0, 1), (589, .iload_n 3, 1), (590, .iconst 1, 1), (591, .iadd, 1), (592, .iaload, 1), (593, .aload_n 0, 1), (594, .iload_n 3, 1), (595, .iconst 2, 1), (596, .iadd, 1), (597, .iaload, 1)]
theorem laD4_ok : (laD4.all fun q => decide (decode code q.1 = .ok (q.2.1, q.2.2))) = true := by decide +kernel
theorem zd_La_law_510 : decode code 510 = .ok (.iconst 1, 1) := laX laD4_ok (q := (510, .iconst 1, 1)) 0 rfl
theorem zd_La_law_511 : decode code 511 = .ok (.iadd, 1) := laX laD4_ok (q := (511, .iadd, 1)) 1 rfl
theorem zd_La_law_512 : decode code 512 = .ok (.iaload, 1) := laX laD4_ok (q := (512, .iaload, 1)) 2 rfl
theorem zd_La_law_513 : decode code 513 = .ok (.aload_n 0, 1) := laX laD4_ok (q := (513, .aload_n 0, 1)) 3 rfl
theorem zd_La_law_514 : decode code 514 = .ok (.iload_n 3, 1) := laX laD4_ok (q := (514, .iload_n 3, 1)) 4 rfl
theorem zd_La_law_515 : decode code 515 = .ok (.iconst 2, 1) := laX laD4_ok (q := (515, .iconst 2, 1)) 5 rfl
theorem zd_La_law_516 : decode code 516 = .ok (.iadd, 1) := laX laD4_ok (q := (516, .iadd, 1)) 6 rfl
theorem zd_La_law_517 : decode code 517 = .ok (.iaload, 1) := laX laD4_ok (q := (517, .iaload, 1)) 7 rfl
theorem zd_La_law_518 : decode code 518 = .ok (.invokevirtual 49, 3) := laX laD4_ok (q := (518, .invokevirtual 49, 3)) 8 rfl
theorem zd_La_law_521 : decode code 521 = .ok (.aload_n 2, 1) := laX laD4_ok (q := (521, .aload_n 2, 1)) 9 rfl
theorem zd_La_law_522 : decode code 522 = .ok (.aload_n 0, 1) := laX laD4_ok (q := (522, .aload_n 0, 1)) 10 rfl
theorem zd_La_law_523 : decode code 523 = .ok (.iload_n 3, 1) := laX laD4_ok (q := (523, .iload_n 3, 1)) 11 rfl
theorem zd_La_law_524 : decode code 524 = .ok (.iconst 1, 1) := laX laD4_ok (q := (524, .iconst 1, 1)) 12 rfl
theorem zd_La_law_525 : decode code 525 = .ok (.iadd, 1) := laX laD4_ok (q := (525, .iadd, 1)) 13 rfl
theorem zd_La_law_526 : decode code 526 = .ok (.iaload, 1) := laX laD4_ok (q := (526, .iaload, 1)) 14 rfl
theorem zd_La_law_527 : decode code 527 = .ok (.aload_n 0, 1) := laX laD4_ok (q := (527, .aload_n 0, 1)) 15 rfl
theorem zd_La_law_528 : decode code 528 = .ok (.iload_n 3, 1) := laX laD4_ok (q := (528, .iload_n 3, 1)) 16 rfl
theorem zd_La_law_529 : decode code 529 = .ok (.iconst 2, 1) := laX laD4_ok (q := (529, .iconst 2, 1)) 17 rfl
theorem zd_La_law_530 : decode code 530 = .ok (.iadd, 1) := laX laD4_ok (q := (530, .iadd, 1)) 18 rfl
theorem zd_La_law_531 : decode code 531 = .ok (.iaload, 1) := laX laD4_ok (q := (531, .iaload, 1)) 19 rfl
theorem zd_La_law_532 : decode code 532 = .ok (.invokevirtual 52, 3) := laX laD4_ok (q := (532, .invokevirtual 52, 3)) 20 rfl
theorem zd_La_law_535 : decode code 535 = .ok (.if_icmp .eq 910, 3) := laX laD4_ok (q := (535, .if_icmp .eq 910, 3)) 21 rfl
theorem zd_La_law_540 : decode code 540 = .ok (.aload_n 1, 1) := laX laD4_ok (q := (540, .aload_n 1, 1)) 22 rfl
theorem zd_La_law_541 : decode code 541 = .ok (.aload_n 0, 1) := laX laD4_ok (q := (541, .aload_n 0, 1)) 23 rfl
theorem zd_La_law_542 : decode code 542 = .ok (.iload_n 3, 1) := laX laD4_ok (q := (542, .iload_n 3, 1)) 24 rfl
theorem zd_La_law_543 : decode code 543 = .ok (.iconst 1, 1) := laX laD4_ok (q := (543, .iconst 1, 1)) 25 rfl
theorem zd_La_law_544 : decode code 544 = .ok (.iadd, 1) := laX laD4_ok (q := (544, .iadd, 1)) 26 rfl
theorem zd_La_law_545 : decode code 545 = .ok (.iaload, 1) := laX laD4_ok (q := (545, .iaload, 1)) 27 rfl
theorem zd_La_law_546 : decode code 546 = .ok (.aload_n 0, 1) := laX laD4_ok (q := (546, .aload_n 0, 1)) 28 rfl
theorem zd_La_law_547 : decode code 547 = .ok (.iload_n 3, 1) := laX laD4_ok (q := (547, .iload_n 3, 1)) 29 rfl
theorem zd_La_law_548 : decode code 548 = .ok (.iconst 2, 1) := laX laD4_ok (q := (548, .iconst 2, 1)) 30 rfl
theorem zd_La_law_549 : decode code 549 = .ok (.iadd, 1) := laX laD4_ok (q := (549, .iadd, 1)) 31 rfl
theorem zd_La_law_550 : decode code 550 = .ok (.iaload, 1) := laX laD4_ok (q := (550, .iaload, 1)) 32 rfl
theorem zd_La_law_551 : decode code 551 = .ok (.invokevirtual 53, 3) := laX laD4_ok (q := (551, .invokevirtual 53, 3)) 33 rfl
theorem zd_La_law_554 : decode code 554 = .ok (.aload_n 2, 1) := laX laD4_ok (q := (554, .aload_n 2, 1)) 34 rfl
theorem zd_La_law_555 : decode code 555 = .ok (.aload_n 0, 1) := laX laD4_ok (q := (555, .aload_n 0, 1)) 35 rfl
theorem zd_La_law_556 : decode code 556 = .ok (.iload_n 3, 1) := laX laD4_ok (q := (556, .iload_n 3, 1)) 36 rfl
theorem zd_La_law_557 : decode code 557 = .ok (.iconst 1, 1) := laX laD4_ok (q := (557, .iconst 1, 1)) 37 rfl
theorem zd_La_law_558 : decode code 558 = .ok (.iadd, 1) := laX laD4_ok (q := (558, .iadd, 1)) 38 rfl
theorem zd_La_law_559 : decode code 559 = .ok (.iaload, 1) := laX laD4_ok (q := (559, .iaload, 1)) 39 rfl
theorem zd_La_law_560 : decode code 560 = .ok (.aload_n 0, 1) := laX laD4_ok (q := (560, .aload_n 0, 1)) 40 rfl
theorem zd_La_law_561 : decode code 561 = .ok (.iload_n 3, 1) := laX laD4_ok (q := (561, .iload_n 3, 1)) 41 rfl
theorem zd_La_law_562 : decode code 562 = .ok (.iconst 2, 1) := laX laD4_ok (q := (562, .iconst 2, 1)) 42 rfl
theorem zd_La_law_563 : decode code 563 = .ok (.iadd, 1) := laX laD4_ok (q := (563, .iadd, 1)) 43 rfl
theorem zd_La_law_564 : decode code 564 = .ok (.iaload, 1) := laX laD4_ok (q := (564, .iaload, 1)) 44 rfl
theorem zd_La_law_565 : decode code 565 = .ok (.invokevirtual 56, 3) := laX laD4_ok (q := (565, .invokevirtual 56, 3)) 45 rfl
theorem zd_La_law_568 : decode code 568 = .ok (.if_icmp .eq 877, 3) := laX laD4_ok (q := (568, .if_icmp .eq 877, 3)) 46 rfl
theorem zd_La_law_573 : decode code 573 = .ok (.aload_n 1, 1) := laX laD4_ok (q := (573, .aload_n 1, 1)) 47 rfl
theorem zd_La_law_574 : decode code 574 = .ok (.aload_n 0, 1) := laX laD4_ok (q := (574, .aload_n 0, 1)) 48 rfl
theorem zd_La_law_575 : decode code 575 = .ok (.iload_n 3, 1) := laX laD4_ok (q := (575, .iload_n 3, 1)) 49 rfl
theorem zd_La_law_576 : decode code 576 = .ok (.iconst 1, 1) := laX laD4_ok (q := (576, .iconst 1, 1)) 50 rfl
theorem zd_La_law_577 : decode code 577 = .ok (.iadd, 1) := laX laD4_ok (q := (577, .iadd, 1)) 51 rfl
theorem zd_La_law_578 : decode code 578 = .ok (.iaload, 1) := laX laD4_ok (q := (578, .iaload, 1)) 52 rfl
theorem zd_La_law_579 : decode code 579 = .ok (.aload_n 0, 1) := laX laD4_ok (q := (579, .aload_n 0, 1)) 53 rfl
theorem zd_La_law_580 : decode code 580 = .ok (.iload_n 3, 1) := laX laD4_ok (q := (580, .iload_n 3, 1)) 54 rfl
theorem zd_La_law_581 : decode code 581 = .ok (.iconst 2, 1) := laX laD4_ok (q := (581, .iconst 2, 1)) 55 rfl
theorem zd_La_law_582 : decode code 582 = .ok (.iadd, 1) := laX laD4_ok (q := (582, .iadd, 1)) 56 rfl
theorem zd_La_law_583 : decode code 583 = .ok (.iaload, 1) := laX laD4_ok (q := (583, .iaload, 1)) 57 rfl
theorem zd_La_law_584 : decode code 584 = .ok (.invokevirtual 57, 3) := laX laD4_ok (q := (584, .invokevirtual 57, 3)) 58 rfl
theorem zd_La_law_587 : decode code 587 = .ok (.aload_n 2, 1) := laX laD4_ok (q := (587, .aload_n 2, 1)) 59 rfl
theorem zd_La_law_588 : decode code 588 = .ok (.aload_n 0, 1) := laX laD4_ok (q := (588, .aload_n 0, 1)) 60 rfl
theorem zd_La_law_589 : decode code 589 = .ok (.iload_n 3, 1) := laX laD4_ok (q := (589, .iload_n 3, 1)) 61 rfl
theorem zd_La_law_590 : decode code 590 = .ok (.iconst 1, 1) := laX laD4_ok (q := (590, .iconst 1, 1)) 62 rfl
theorem zd_La_law_591 : decode code 591 = .ok (.iadd, 1) := laX laD4_ok (q := (591, .iadd, 1)) 63 rfl
theorem zd_La_law_592 : decode code 592 = .ok (.iaload, 1) := laX laD4_ok (q := (592, .iaload, 1)) 64 rfl
theorem zd_La_law_593 : decode code 593 = .ok (.aload_n 0, 1) := laX laD4_ok (q := (593, .aload_n 0, 1)) 65 rfl
theorem zd_La_law_594 : decode code 594 = .ok (.iload_n 3, 1) := laX laD4_ok (q := (594, .iload_n 3, 1)) 66 rfl
theorem zd_La_law_595 : decode code 595 = .ok (.iconst 2, 1) := laX laD4_ok (q := (595, .iconst 2, 1)) 67 rfl
theorem zd_La_law_596 : decode code 596 = .ok (.iadd, 1) := laX laD4_ok (q := (596, .iadd, 1)) 68 rfl
theorem zd_La_law_597 : decode code 597 = .ok (.iaload, 1) := laX laD4_ok (q := (597, .iaload, 1)) 69 rfl
def laD5 : List (Nat × Instr × Nat) := [(598, .invokevirtual 60, 3), (601, .if_icmp .eq 844, 3), (606, .aload_n 1, 1), (607, .aload_n 0, 1), (608, .iload_n 3, 1), (609, .iconst 1, 1), (610, .iadd, 1), (611, .iaload, 1), (612, .invokevirtual 61, 3), (615, .aload_n 2, 1), (616, .aload_n 0, 1), (617, .iload_n 3, 1), (618, .iconst 1, 1), (619, .iadd, 1), (620, .iaload, 1), (621, .invokevirtual 64, 3), (624, .if_icmp .eq 821, 3), (629, .aload_n 1, 1), (630, .aload_n 0, 1), (631, .iload_n 3, 1), (632, .iconst 1, 1), (633, .iadd, 1), (634, .iaload, 1), (635, .aload_n 0, 1), (636, .iload_n 3, 1), (637, .iconst 2, 1), (638, .iadd, 1), (639, .iaload, 1), (640, .invokevirtual 65, 3), (643, .aload_n 2, 1), (644, .aload_n 0, 1), (645, .iload_n 3, 1), (646, .iconst 1, 1), (647, .iadd, 1), (648, .iaload, 1), (649, .aload_n 0, 1), (650, .iload_n 3, 1), (651, .iconst 2, 1), (652, .iadd, 1), (653, .iaload, 1), (654, .invokevirtual 68, 3), (657, .if_icmp .eq 788, 3), (662, .aload_n 1, 1), (663, .aload_n 0, 1), (664, .iload_n 3, 1), (665, .iconst 1, 1), (666, .iadd, 1), (667, .iaload, 1), (668, .i2l, 1), (669, .bipush 32, 2), (671, .lshl, 1), (672, .aload_n 0, 1), (673, .iload_n 3, 1), (674, .iconst 2, 1), (675, .iadd, 1), (676, .iaload, 1), (677, .i2l, 1), (678, .ldc2_w 69, 3), (681, .land, 1), (682, .lor, 1), (683, .invokevirtual 71, 3), (686, .aload_n 2, 1), (687, .aload_n 0, 1), (688, .iload_n 3, 1), (689, .iconst 1, 1), (690, .iadd, 1), (691, .iaload, 1), (692, .i2l, 1), (693, .bipush 32, 2), (695, .lshl, 1)]
theorem laD5_ok : (laD5.all fun q => decide (decode code q.1 = .ok (q.2.1, q.2.2))) = true := by decide +kernel
theorem zd_La_law_598 : decode code 598 = .ok (.invokevirtual 60, 3) := laX laD5_ok (q := (598, .invokevirtual 60, 3)) 0 rfl
theorem zd_La_law_601 : decode code 601 = .ok (.if_icmp .eq 844, 3) := laX laD5_ok (q := (601, .if_icmp .eq 844, 3)) 1 rfl
theorem zd_La_law_606 : decode code 606 = .ok (.aload_n 1, 1) := laX laD5_ok (q := (606, .aload_n 1, 1)) 2 rfl
theorem zd_La_law_607 : decode code 607 = .ok (.aload_n 0, 1) := laX laD5_ok (q := (607, .aload_n 0, 1)) 3 rfl
theorem zd_La_law_608 : decode code 608 = .ok (.iload_n 3, 1) := laX laD5_ok (q := (608, .iload_n 3, 1)) 4 rfl
theorem zd_La_law_609 : decode code 609 = .ok (.iconst 1, 1) := laX laD5_ok (q := (609, .iconst 1, 1)) 5 rfl
theorem zd_La_law_610 : decode code 610 = .ok (.iadd, 1) := laX laD5_ok (q := (610, .iadd, 1)) 6 rfl
theorem zd_La_law_611 : decode code 611 = .ok (.iaload, 1) := laX laD5_ok (q := (611, .iaload, 1)) 7 rfl
theorem zd_La_law_612 : decode code 612 = .ok (.invokevirtual 61, 3) := laX laD5_ok (q := (612, .invokevirtual 61, 3)) 8 rfl
theorem zd_La_law_615 : decode code 615 = .ok (.aload_n 2, 1) := laX laD5_ok (q := (615, .aload_n 2, 1)) 9 rfl
theorem zd_La_law_616 : decode code 616 = .ok (.aload_n 0, 1) := laX laD5_ok (q := (616, .aload_n 0, 1)) 10 rfl
theorem zd_La_law_617 : decode code 617 = .ok (.iload_n 3, 1) := laX laD5_ok (q := (617, .iload_n 3, 1)) 11 rfl
theorem zd_La_law_618 : decode code 618 = .ok (.iconst 1, 1) := laX laD5_ok (q := (618, .iconst 1, 1)) 12 rfl
theorem zd_La_law_619 : decode code 619 = .ok (.iadd, 1) := laX laD5_ok (q := (619, .iadd, 1)) 13 rfl
theorem zd_La_law_620 : decode code 620 = .ok (.iaload, 1) := laX laD5_ok (q := (620, .iaload, 1)) 14 rfl
theorem zd_La_law_621 : decode code 621 = .ok (.invokevirtual 64, 3) := laX laD5_ok (q := (621, .invokevirtual 64, 3)) 15 rfl
theorem zd_La_law_624 : decode code 624 = .ok (.if_icmp .eq 821, 3) := laX laD5_ok (q := (624, .if_icmp .eq 821, 3)) 16 rfl
theorem zd_La_law_629 : decode code 629 = .ok (.aload_n 1, 1) := laX laD5_ok (q := (629, .aload_n 1, 1)) 17 rfl
theorem zd_La_law_630 : decode code 630 = .ok (.aload_n 0, 1) := laX laD5_ok (q := (630, .aload_n 0, 1)) 18 rfl
theorem zd_La_law_631 : decode code 631 = .ok (.iload_n 3, 1) := laX laD5_ok (q := (631, .iload_n 3, 1)) 19 rfl
theorem zd_La_law_632 : decode code 632 = .ok (.iconst 1, 1) := laX laD5_ok (q := (632, .iconst 1, 1)) 20 rfl
theorem zd_La_law_633 : decode code 633 = .ok (.iadd, 1) := laX laD5_ok (q := (633, .iadd, 1)) 21 rfl
theorem zd_La_law_634 : decode code 634 = .ok (.iaload, 1) := laX laD5_ok (q := (634, .iaload, 1)) 22 rfl
theorem zd_La_law_635 : decode code 635 = .ok (.aload_n 0, 1) := laX laD5_ok (q := (635, .aload_n 0, 1)) 23 rfl
theorem zd_La_law_636 : decode code 636 = .ok (.iload_n 3, 1) := laX laD5_ok (q := (636, .iload_n 3, 1)) 24 rfl
theorem zd_La_law_637 : decode code 637 = .ok (.iconst 2, 1) := laX laD5_ok (q := (637, .iconst 2, 1)) 25 rfl
theorem zd_La_law_638 : decode code 638 = .ok (.iadd, 1) := laX laD5_ok (q := (638, .iadd, 1)) 26 rfl
theorem zd_La_law_639 : decode code 639 = .ok (.iaload, 1) := laX laD5_ok (q := (639, .iaload, 1)) 27 rfl
theorem zd_La_law_640 : decode code 640 = .ok (.invokevirtual 65, 3) := laX laD5_ok (q := (640, .invokevirtual 65, 3)) 28 rfl
theorem zd_La_law_643 : decode code 643 = .ok (.aload_n 2, 1) := laX laD5_ok (q := (643, .aload_n 2, 1)) 29 rfl
theorem zd_La_law_644 : decode code 644 = .ok (.aload_n 0, 1) := laX laD5_ok (q := (644, .aload_n 0, 1)) 30 rfl
theorem zd_La_law_645 : decode code 645 = .ok (.iload_n 3, 1) := laX laD5_ok (q := (645, .iload_n 3, 1)) 31 rfl
theorem zd_La_law_646 : decode code 646 = .ok (.iconst 1, 1) := laX laD5_ok (q := (646, .iconst 1, 1)) 32 rfl
theorem zd_La_law_647 : decode code 647 = .ok (.iadd, 1) := laX laD5_ok (q := (647, .iadd, 1)) 33 rfl
theorem zd_La_law_648 : decode code 648 = .ok (.iaload, 1) := laX laD5_ok (q := (648, .iaload, 1)) 34 rfl
theorem zd_La_law_649 : decode code 649 = .ok (.aload_n 0, 1) := laX laD5_ok (q := (649, .aload_n 0, 1)) 35 rfl
theorem zd_La_law_650 : decode code 650 = .ok (.iload_n 3, 1) := laX laD5_ok (q := (650, .iload_n 3, 1)) 36 rfl
theorem zd_La_law_651 : decode code 651 = .ok (.iconst 2, 1) := laX laD5_ok (q := (651, .iconst 2, 1)) 37 rfl
theorem zd_La_law_652 : decode code 652 = .ok (.iadd, 1) := laX laD5_ok (q := (652, .iadd, 1)) 38 rfl
theorem zd_La_law_653 : decode code 653 = .ok (.iaload, 1) := laX laD5_ok (q := (653, .iaload, 1)) 39 rfl
theorem zd_La_law_654 : decode code 654 = .ok (.invokevirtual 68, 3) := laX laD5_ok (q := (654, .invokevirtual 68, 3)) 40 rfl
theorem zd_La_law_657 : decode code 657 = .ok (.if_icmp .eq 788, 3) := laX laD5_ok (q := (657, .if_icmp .eq 788, 3)) 41 rfl
theorem zd_La_law_662 : decode code 662 = .ok (.aload_n 1, 1) := laX laD5_ok (q := (662, .aload_n 1, 1)) 42 rfl
theorem zd_La_law_663 : decode code 663 = .ok (.aload_n 0, 1) := laX laD5_ok (q := (663, .aload_n 0, 1)) 43 rfl
theorem zd_La_law_664 : decode code 664 = .ok (.iload_n 3, 1) := laX laD5_ok (q := (664, .iload_n 3, 1)) 44 rfl
theorem zd_La_law_665 : decode code 665 = .ok (.iconst 1, 1) := laX laD5_ok (q := (665, .iconst 1, 1)) 45 rfl
theorem zd_La_law_666 : decode code 666 = .ok (.iadd, 1) := laX laD5_ok (q := (666, .iadd, 1)) 46 rfl
theorem zd_La_law_667 : decode code 667 = .ok (.iaload, 1) := laX laD5_ok (q := (667, .iaload, 1)) 47 rfl
theorem zd_La_law_668 : decode code 668 = .ok (.i2l, 1) := laX laD5_ok (q := (668, .i2l, 1)) 48 rfl
theorem zd_La_law_669 : decode code 669 = .ok (.bipush 32, 2) := laX laD5_ok (q := (669, .bipush 32, 2)) 49 rfl
theorem zd_La_law_671 : decode code 671 = .ok (.lshl, 1) := laX laD5_ok (q := (671, .lshl, 1)) 50 rfl
theorem zd_La_law_672 : decode code 672 = .ok (.aload_n 0, 1) := laX laD5_ok (q := (672, .aload_n 0, 1)) 51 rfl
theorem zd_La_law_673 : decode code 673 = .ok (.iload_n 3, 1) := laX laD5_ok (q := (673, .iload_n 3, 1)) 52 rfl
theorem zd_La_law_674 : decode code 674 = .ok (.iconst 2, 1) := laX laD5_ok (q := (674, .iconst 2, 1)) 53 rfl
theorem zd_La_law_675 : decode code 675 = .ok (.iadd, 1) := laX laD5_ok (q := (675, .iadd, 1)) 54 rfl
theorem zd_La_law_676 : decode code 676 = .ok (.iaload, 1) := laX laD5_ok (q := (676, .iaload, 1)) 55 rfl
theorem zd_La_law_677 : decode code 677 = .ok (.i2l, 1) := laX laD5_ok (q := (677, .i2l, 1)) 56 rfl
theorem zd_La_law_678 : decode code 678 = .ok (.ldc2_w 69, 3) := laX laD5_ok (q := (678, .ldc2_w 69, 3)) 57 rfl
theorem zd_La_law_681 : decode code 681 = .ok (.land, 1) := laX laD5_ok (q := (681, .land, 1)) 58 rfl
theorem zd_La_law_682 : decode code 682 = .ok (.lor, 1) := laX laD5_ok (q := (682, .lor, 1)) 59 rfl
theorem zd_La_law_683 : decode code 683 = .ok (.invokevirtual 71, 3) := laX laD5_ok (q := (683, .invokevirtual 71, 3)) 60 rfl
theorem zd_La_law_686 : decode code 686 = .ok (.aload_n 2, 1) := laX laD5_ok (q := (686, .aload_n 2, 1)) 61 rfl
theorem zd_La_law_687 : decode code 687 = .ok (.aload_n 0, 1) := laX laD5_ok (q := (687, .aload_n 0, 1)) 62 rfl
theorem zd_La_law_688 : decode code 688 = .ok (.iload_n 3, 1) := laX laD5_ok (q := (688, .iload_n 3, 1)) 63 rfl
theorem zd_La_law_689 : decode code 689 = .ok (.iconst 1, 1) := laX laD5_ok (q := (689, .iconst 1, 1)) 64 rfl
theorem zd_La_law_690 : decode code 690 = .ok (.iadd, 1) := laX laD5_ok (q := (690, .iadd, 1)) 65 rfl
theorem zd_La_law_691 : decode code 691 = .ok (.iaload, 1) := laX laD5_ok (q := (691, .iaload, 1)) 66 rfl
theorem zd_La_law_692 : decode code 692 = .ok (.i2l, 1) := laX laD5_ok (q := (692, .i2l, 1)) 67 rfl
theorem zd_La_law_693 : decode code 693 = .ok (.bipush 32, 2) := laX laD5_ok (q := (693, .bipush 32, 2)) 68 rfl
theorem zd_La_law_695 : decode code 695 = .ok (.lshl, 1) := laX laD5_ok (q := (695, .lshl, 1)) 69 rfl
def laD6 : List (Nat × Instr × Nat) := [(696, .aload_n 0, 1), (697, .iload_n 3, 1), (698, .iconst 2, 1), (699, .iadd, 1), (700, .iaload, 1), (701, .i2l, 1), (702, .ldc2_w 69, 3), (705, .land, 1), (706, .lor, 1), (707, .invokevirtual 75, 3), (710, .lcmp, 1), (711, .ifCond .eq 734, 3), (716, .aload_n 1, 1), (717, .aload_n 0, 1), (718, .iload_n 3, 1), (719, .iconst 1, 1), (720, .iadd, 1), (721, .iaload, 1), (722, .i2l, 1), (723, .bipush 32, 2), (725, .lshl, 1), (726, .aload_n 0, 1), (727, .iload_n 3, 1), (728, .iconst 2, 1), (729, .iadd, 1), (730, .iaload, 1), (731, .i2l, 1), (732, .ldc2_w 69, 3), (735, .land, 1), (736, .lor, 1), (737, .aload_n 0, 1), (738, .iload_n 3, 1), (739, .iconst 3, 1), (740, .iadd, 1), (741, .iaload, 1), (742, .i2l, 1), (743, .bipush 32, 2), (745, .lshl, 1), (746, .aload_n 0, 1), (747, .iload_n 3, 1), (748, .iconst 4, 1), (749, .iadd, 1), (750, .iaload, 1), (751, .i2l, 1), (752, .ldc2_w 69, 3), (755, .land, 1), (756, .lor, 1), (757, .invokevirtual 76, 3), (760, .aload_n 2, 1), (761, .aload_n 0, 1), (762, .iload_n 3, 1), (763, .iconst 1, 1), (764, .iadd, 1), (765, .iaload, 1), (766, .i2l, 1), (767, .bipush 32, 2), (769, .lshl, 1), (770, .aload_n 0, 1), (771, .iload_n 3, 1), (772, .iconst 2, 1), (773, .iadd, 1), (774, .iaload, 1), (775, .i2l, 1), (776, .ldc2_w 69, 3), (779, .land, 1), (780, .lor, 1), (781, .aload_n 0, 1), (782, .iload_n 3, 1), (783, .iconst 3, 1), (784, .iadd, 1)]
theorem laD6_ok : (laD6.all fun q => decide (decode code q.1 = .ok (q.2.1, q.2.2))) = true := by decide +kernel
theorem zd_La_law_696 : decode code 696 = .ok (.aload_n 0, 1) := laX laD6_ok (q := (696, .aload_n 0, 1)) 0 rfl
theorem zd_La_law_697 : decode code 697 = .ok (.iload_n 3, 1) := laX laD6_ok (q := (697, .iload_n 3, 1)) 1 rfl
theorem zd_La_law_698 : decode code 698 = .ok (.iconst 2, 1) := laX laD6_ok (q := (698, .iconst 2, 1)) 2 rfl
theorem zd_La_law_699 : decode code 699 = .ok (.iadd, 1) := laX laD6_ok (q := (699, .iadd, 1)) 3 rfl
theorem zd_La_law_700 : decode code 700 = .ok (.iaload, 1) := laX laD6_ok (q := (700, .iaload, 1)) 4 rfl
theorem zd_La_law_701 : decode code 701 = .ok (.i2l, 1) := laX laD6_ok (q := (701, .i2l, 1)) 5 rfl
theorem zd_La_law_702 : decode code 702 = .ok (.ldc2_w 69, 3) := laX laD6_ok (q := (702, .ldc2_w 69, 3)) 6 rfl
theorem zd_La_law_705 : decode code 705 = .ok (.land, 1) := laX laD6_ok (q := (705, .land, 1)) 7 rfl
theorem zd_La_law_706 : decode code 706 = .ok (.lor, 1) := laX laD6_ok (q := (706, .lor, 1)) 8 rfl
theorem zd_La_law_707 : decode code 707 = .ok (.invokevirtual 75, 3) := laX laD6_ok (q := (707, .invokevirtual 75, 3)) 9 rfl
theorem zd_La_law_710 : decode code 710 = .ok (.lcmp, 1) := laX laD6_ok (q := (710, .lcmp, 1)) 10 rfl
theorem zd_La_law_711 : decode code 711 = .ok (.ifCond .eq 734, 3) := laX laD6_ok (q := (711, .ifCond .eq 734, 3)) 11 rfl
theorem zd_La_law_716 : decode code 716 = .ok (.aload_n 1, 1) := laX laD6_ok (q := (716, .aload_n 1, 1)) 12 rfl
theorem zd_La_law_717 : decode code 717 = .ok (.aload_n 0, 1) := laX laD6_ok (q := (717, .aload_n 0, 1)) 13 rfl
theorem zd_La_law_718 : decode code 718 = .ok (.iload_n 3, 1) := laX laD6_ok (q := (718, .iload_n 3, 1)) 14 rfl
theorem zd_La_law_719 : decode code 719 = .ok (.iconst 1, 1) := laX laD6_ok (q := (719, .iconst 1, 1)) 15 rfl
theorem zd_La_law_720 : decode code 720 = .ok (.iadd, 1) := laX laD6_ok (q := (720, .iadd, 1)) 16 rfl
theorem zd_La_law_721 : decode code 721 = .ok (.iaload, 1) := laX laD6_ok (q := (721, .iaload, 1)) 17 rfl
theorem zd_La_law_722 : decode code 722 = .ok (.i2l, 1) := laX laD6_ok (q := (722, .i2l, 1)) 18 rfl
theorem zd_La_law_723 : decode code 723 = .ok (.bipush 32, 2) := laX laD6_ok (q := (723, .bipush 32, 2)) 19 rfl
theorem zd_La_law_725 : decode code 725 = .ok (.lshl, 1) := laX laD6_ok (q := (725, .lshl, 1)) 20 rfl
theorem zd_La_law_726 : decode code 726 = .ok (.aload_n 0, 1) := laX laD6_ok (q := (726, .aload_n 0, 1)) 21 rfl
theorem zd_La_law_727 : decode code 727 = .ok (.iload_n 3, 1) := laX laD6_ok (q := (727, .iload_n 3, 1)) 22 rfl
theorem zd_La_law_728 : decode code 728 = .ok (.iconst 2, 1) := laX laD6_ok (q := (728, .iconst 2, 1)) 23 rfl
theorem zd_La_law_729 : decode code 729 = .ok (.iadd, 1) := laX laD6_ok (q := (729, .iadd, 1)) 24 rfl
theorem zd_La_law_730 : decode code 730 = .ok (.iaload, 1) := laX laD6_ok (q := (730, .iaload, 1)) 25 rfl
theorem zd_La_law_731 : decode code 731 = .ok (.i2l, 1) := laX laD6_ok (q := (731, .i2l, 1)) 26 rfl
theorem zd_La_law_732 : decode code 732 = .ok (.ldc2_w 69, 3) := laX laD6_ok (q := (732, .ldc2_w 69, 3)) 27 rfl
theorem zd_La_law_735 : decode code 735 = .ok (.land, 1) := laX laD6_ok (q := (735, .land, 1)) 28 rfl
theorem zd_La_law_736 : decode code 736 = .ok (.lor, 1) := laX laD6_ok (q := (736, .lor, 1)) 29 rfl
theorem zd_La_law_737 : decode code 737 = .ok (.aload_n 0, 1) := laX laD6_ok (q := (737, .aload_n 0, 1)) 30 rfl
theorem zd_La_law_738 : decode code 738 = .ok (.iload_n 3, 1) := laX laD6_ok (q := (738, .iload_n 3, 1)) 31 rfl
theorem zd_La_law_739 : decode code 739 = .ok (.iconst 3, 1) := laX laD6_ok (q := (739, .iconst 3, 1)) 32 rfl
theorem zd_La_law_740 : decode code 740 = .ok (.iadd, 1) := laX laD6_ok (q := (740, .iadd, 1)) 33 rfl
theorem zd_La_law_741 : decode code 741 = .ok (.iaload, 1) := laX laD6_ok (q := (741, .iaload, 1)) 34 rfl
theorem zd_La_law_742 : decode code 742 = .ok (.i2l, 1) := laX laD6_ok (q := (742, .i2l, 1)) 35 rfl
theorem zd_La_law_743 : decode code 743 = .ok (.bipush 32, 2) := laX laD6_ok (q := (743, .bipush 32, 2)) 36 rfl
theorem zd_La_law_745 : decode code 745 = .ok (.lshl, 1) := laX laD6_ok (q := (745, .lshl, 1)) 37 rfl
theorem zd_La_law_746 : decode code 746 = .ok (.aload_n 0, 1) := laX laD6_ok (q := (746, .aload_n 0, 1)) 38 rfl
theorem zd_La_law_747 : decode code 747 = .ok (.iload_n 3, 1) := laX laD6_ok (q := (747, .iload_n 3, 1)) 39 rfl
theorem zd_La_law_748 : decode code 748 = .ok (.iconst 4, 1) := laX laD6_ok (q := (748, .iconst 4, 1)) 40 rfl
theorem zd_La_law_749 : decode code 749 = .ok (.iadd, 1) := laX laD6_ok (q := (749, .iadd, 1)) 41 rfl
theorem zd_La_law_750 : decode code 750 = .ok (.iaload, 1) := laX laD6_ok (q := (750, .iaload, 1)) 42 rfl
theorem zd_La_law_751 : decode code 751 = .ok (.i2l, 1) := laX laD6_ok (q := (751, .i2l, 1)) 43 rfl
theorem zd_La_law_752 : decode code 752 = .ok (.ldc2_w 69, 3) := laX laD6_ok (q := (752, .ldc2_w 69, 3)) 44 rfl
theorem zd_La_law_755 : decode code 755 = .ok (.land, 1) := laX laD6_ok (q := (755, .land, 1)) 45 rfl
theorem zd_La_law_756 : decode code 756 = .ok (.lor, 1) := laX laD6_ok (q := (756, .lor, 1)) 46 rfl
theorem zd_La_law_757 : decode code 757 = .ok (.invokevirtual 76, 3) := laX laD6_ok (q := (757, .invokevirtual 76, 3)) 47 rfl
theorem zd_La_law_760 : decode code 760 = .ok (.aload_n 2, 1) := laX laD6_ok (q := (760, .aload_n 2, 1)) 48 rfl
theorem zd_La_law_761 : decode code 761 = .ok (.aload_n 0, 1) := laX laD6_ok (q := (761, .aload_n 0, 1)) 49 rfl
theorem zd_La_law_762 : decode code 762 = .ok (.iload_n 3, 1) := laX laD6_ok (q := (762, .iload_n 3, 1)) 50 rfl
theorem zd_La_law_763 : decode code 763 = .ok (.iconst 1, 1) := laX laD6_ok (q := (763, .iconst 1, 1)) 51 rfl
theorem zd_La_law_764 : decode code 764 = .ok (.iadd, 1) := laX laD6_ok (q := (764, .iadd, 1)) 52 rfl
theorem zd_La_law_765 : decode code 765 = .ok (.iaload, 1) := laX laD6_ok (q := (765, .iaload, 1)) 53 rfl
theorem zd_La_law_766 : decode code 766 = .ok (.i2l, 1) := laX laD6_ok (q := (766, .i2l, 1)) 54 rfl
theorem zd_La_law_767 : decode code 767 = .ok (.bipush 32, 2) := laX laD6_ok (q := (767, .bipush 32, 2)) 55 rfl
theorem zd_La_law_769 : decode code 769 = .ok (.lshl, 1) := laX laD6_ok (q := (769, .lshl, 1)) 56 rfl
theorem zd_La_law_770 : decode code 770 = .ok (.aload_n 0, 1) := laX laD6_ok (q := (770, .aload_n 0, 1)) 57 rfl
theorem zd_La_law_771 : decode code 771 = .ok (.iload_n 3, 1) := laX laD6_ok (q := (771, .iload_n 3, 1)) 58 rfl
theorem zd_La_law_772 : decode code 772 = .ok (.iconst 2, 1) := laX laD6_ok (q := (772, .iconst 2, 1)) 59 rfl
theorem zd_La_law_773 : decode code 773 = .ok (.iadd, 1) := laX laD6_ok (q := (773, .iadd, 1)) 60 rfl
theorem zd_La_law_774 : decode code 774 = .ok (.iaload, 1) := laX laD6_ok (q := (774, .iaload, 1)) 61 rfl
theorem zd_La_law_775 : decode code 775 = .ok (.i2l, 1) := laX laD6_ok (q := (775, .i2l, 1)) 62 rfl
theorem zd_La_law_776 : decode code 776 = .ok (.ldc2_w 69, 3) := laX laD6_ok (q := (776, .ldc2_w 69, 3)) 63 rfl
theorem zd_La_law_779 : decode code 779 = .ok (.land, 1) := laX laD6_ok (q := (779, .land, 1)) 64 rfl
theorem zd_La_law_780 : decode code 780 = .ok (.lor, 1) := laX laD6_ok (q := (780, .lor, 1)) 65 rfl
theorem zd_La_law_781 : decode code 781 = .ok (.aload_n 0, 1) := laX laD6_ok (q := (781, .aload_n 0, 1)) 66 rfl
theorem zd_La_law_782 : decode code 782 = .ok (.iload_n 3, 1) := laX laD6_ok (q := (782, .iload_n 3, 1)) 67 rfl
theorem zd_La_law_783 : decode code 783 = .ok (.iconst 3, 1) := laX laD6_ok (q := (783, .iconst 3, 1)) 68 rfl
theorem zd_La_law_784 : decode code 784 = .ok (.iadd, 1) := laX laD6_ok (q := (784, .iadd, 1)) 69 rfl
