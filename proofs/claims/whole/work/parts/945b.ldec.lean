/-! the law's instructions -/
theorem dl_468 : decode code 468 = .ok (.aload_n 0, 1) := by decide +kernel
theorem dl_469 : decode code 469 = .ok (.iload 4, 2) := by decide +kernel
theorem dl_471 : decode code 471 = .ok (.iconst 1, 1) := by decide +kernel
theorem dl_472 : decode code 472 = .ok (.iadd, 1) := by decide +kernel
theorem dl_473 : decode code 473 = .ok (.iaload, 1) := by decide +kernel
theorem dl_474 : decode code 474 = .ok (.invokevirtual 62, 3) := by decide +kernel
theorem dl_477 : decode code 477 = .ok (.if_icmp .eq 646, 3) := by decide +kernel
theorem dl_480 : decode code 480 = .ok (.iconst 0, 1) := by decide +kernel
theorem dl_481 : decode code 481 = .ok (.ireturn, 1) := by decide +kernel
theorem dl_482 : decode code 482 = .ok (.aload_n 1, 1) := by decide +kernel
theorem dl_483 : decode code 483 = .ok (.aload_n 0, 1) := by decide +kernel
theorem dl_484 : decode code 484 = .ok (.iload 4, 2) := by decide +kernel
theorem dl_486 : decode code 486 = .ok (.iconst 1, 1) := by decide +kernel
theorem dl_487 : decode code 487 = .ok (.iadd, 1) := by decide +kernel
theorem dl_488 : decode code 488 = .ok (.iaload, 1) := by decide +kernel
theorem dl_489 : decode code 489 = .ok (.invokevirtual 63, 3) := by decide +kernel
theorem dl_492 : decode code 492 = .ok (.aload_n 2, 1) := by decide +kernel
theorem dl_493 : decode code 493 = .ok (.aload_n 0, 1) := by decide +kernel
theorem dl_494 : decode code 494 = .ok (.iload 4, 2) := by decide +kernel
theorem dl_496 : decode code 496 = .ok (.iconst 1, 1) := by decide +kernel
theorem dl_497 : decode code 497 = .ok (.iadd, 1) := by decide +kernel
theorem dl_498 : decode code 498 = .ok (.iaload, 1) := by decide +kernel
theorem dl_499 : decode code 499 = .ok (.invokevirtual 66, 3) := by decide +kernel
theorem dl_502 : decode code 502 = .ok (.lcmp, 1) := by decide +kernel
theorem dl_503 : decode code 503 = .ok (.ifCond .eq 620, 3) := by decide +kernel
theorem dl_506 : decode code 506 = .ok (.iconst 0, 1) := by decide +kernel
theorem dl_507 : decode code 507 = .ok (.ireturn, 1) := by decide +kernel
theorem dl_508 : decode code 508 = .ok (.aload_n 1, 1) := by decide +kernel
theorem dl_509 : decode code 509 = .ok (.aload_n 0, 1) := by decide +kernel
theorem dl_510 : decode code 510 = .ok (.iload 4, 2) := by decide +kernel
theorem dl_512 : decode code 512 = .ok (.iconst 1, 1) := by decide +kernel
theorem dl_513 : decode code 513 = .ok (.iadd, 1) := by decide +kernel
theorem dl_514 : decode code 514 = .ok (.iaload, 1) := by decide +kernel
theorem dl_515 : decode code 515 = .ok (.invokevirtual 67, 3) := by decide +kernel
theorem dl_518 : decode code 518 = .ok (.aload_n 2, 1) := by decide +kernel
theorem dl_519 : decode code 519 = .ok (.aload_n 0, 1) := by decide +kernel
theorem dl_520 : decode code 520 = .ok (.iload 4, 2) := by decide +kernel
theorem dl_522 : decode code 522 = .ok (.iconst 1, 1) := by decide +kernel
theorem dl_523 : decode code 523 = .ok (.iadd, 1) := by decide +kernel
theorem dl_524 : decode code 524 = .ok (.iaload, 1) := by decide +kernel
theorem dl_525 : decode code 525 = .ok (.invokevirtual 70, 3) := by decide +kernel
theorem dl_528 : decode code 528 = .ok (.if_icmp .eq 595, 3) := by decide +kernel
theorem dl_531 : decode code 531 = .ok (.iconst 0, 1) := by decide +kernel
theorem dl_532 : decode code 532 = .ok (.ireturn, 1) := by decide +kernel
theorem dl_533 : decode code 533 = .ok (.aload_n 1, 1) := by decide +kernel
theorem dl_534 : decode code 534 = .ok (.aload_n 0, 1) := by decide +kernel
theorem dl_535 : decode code 535 = .ok (.iload 4, 2) := by decide +kernel
theorem dl_537 : decode code 537 = .ok (.iconst 1, 1) := by decide +kernel
theorem dl_538 : decode code 538 = .ok (.iadd, 1) := by decide +kernel
theorem dl_539 : decode code 539 = .ok (.iaload, 1) := by decide +kernel
theorem dl_540 : decode code 540 = .ok (.aload_n 0, 1) := by decide +kernel
theorem dl_541 : decode code 541 = .ok (.iload 4, 2) := by decide +kernel
theorem dl_543 : decode code 543 = .ok (.iconst 2, 1) := by decide +kernel
theorem dl_544 : decode code 544 = .ok (.iadd, 1) := by decide +kernel
theorem dl_545 : decode code 545 = .ok (.iaload, 1) := by decide +kernel
theorem dl_546 : decode code 546 = .ok (.invokevirtual 71, 3) := by decide +kernel
theorem dl_549 : decode code 549 = .ok (.aload_n 2, 1) := by decide +kernel
theorem dl_550 : decode code 550 = .ok (.aload_n 0, 1) := by decide +kernel
theorem dl_551 : decode code 551 = .ok (.iload 4, 2) := by decide +kernel
theorem dl_553 : decode code 553 = .ok (.iconst 1, 1) := by decide +kernel
theorem dl_554 : decode code 554 = .ok (.iadd, 1) := by decide +kernel
theorem dl_555 : decode code 555 = .ok (.iaload, 1) := by decide +kernel
theorem dl_556 : decode code 556 = .ok (.aload_n 0, 1) := by decide +kernel
theorem dl_557 : decode code 557 = .ok (.iload 4, 2) := by decide +kernel
theorem dl_559 : decode code 559 = .ok (.iconst 2, 1) := by decide +kernel
theorem dl_560 : decode code 560 = .ok (.iadd, 1) := by decide +kernel
theorem dl_561 : decode code 561 = .ok (.iaload, 1) := by decide +kernel
theorem dl_562 : decode code 562 = .ok (.invokevirtual 74, 3) := by decide +kernel
theorem dl_565 : decode code 565 = .ok (.if_icmp .eq 558, 3) := by decide +kernel
theorem dl_568 : decode code 568 = .ok (.iconst 0, 1) := by decide +kernel
theorem dl_569 : decode code 569 = .ok (.ireturn, 1) := by decide +kernel
theorem dl_570 : decode code 570 = .ok (.aload_n 1, 1) := by decide +kernel
theorem dl_571 : decode code 571 = .ok (.aload_n 0, 1) := by decide +kernel
theorem dl_572 : decode code 572 = .ok (.iload 4, 2) := by decide +kernel
theorem dl_574 : decode code 574 = .ok (.iconst 1, 1) := by decide +kernel
theorem dl_575 : decode code 575 = .ok (.iadd, 1) := by decide +kernel
theorem dl_576 : decode code 576 = .ok (.iaload, 1) := by decide +kernel
theorem dl_577 : decode code 577 = .ok (.aload_n 0, 1) := by decide +kernel
theorem dl_578 : decode code 578 = .ok (.iload 4, 2) := by decide +kernel
theorem dl_580 : decode code 580 = .ok (.iconst 2, 1) := by decide +kernel
theorem dl_581 : decode code 581 = .ok (.iadd, 1) := by decide +kernel
theorem dl_582 : decode code 582 = .ok (.iaload, 1) := by decide +kernel
theorem dl_583 : decode code 583 = .ok (.invokevirtual 75, 3) := by decide +kernel
theorem dl_586 : decode code 586 = .ok (.aload_n 2, 1) := by decide +kernel
theorem dl_587 : decode code 587 = .ok (.aload_n 0, 1) := by decide +kernel
theorem dl_588 : decode code 588 = .ok (.iload 4, 2) := by decide +kernel
theorem dl_590 : decode code 590 = .ok (.iconst 1, 1) := by decide +kernel
theorem dl_591 : decode code 591 = .ok (.iadd, 1) := by decide +kernel
theorem dl_592 : decode code 592 = .ok (.iaload, 1) := by decide +kernel
theorem dl_593 : decode code 593 = .ok (.aload_n 0, 1) := by decide +kernel
theorem dl_594 : decode code 594 = .ok (.iload 4, 2) := by decide +kernel
theorem dl_596 : decode code 596 = .ok (.iconst 2, 1) := by decide +kernel
theorem dl_597 : decode code 597 = .ok (.iadd, 1) := by decide +kernel
theorem dl_598 : decode code 598 = .ok (.iaload, 1) := by decide +kernel
theorem dl_599 : decode code 599 = .ok (.invokevirtual 78, 3) := by decide +kernel
theorem dl_602 : decode code 602 = .ok (.if_icmp .eq 521, 3) := by decide +kernel
theorem dl_605 : decode code 605 = .ok (.iconst 0, 1) := by decide +kernel
theorem dl_606 : decode code 606 = .ok (.ireturn, 1) := by decide +kernel
theorem dl_607 : decode code 607 = .ok (.aload_n 1, 1) := by decide +kernel
theorem dl_608 : decode code 608 = .ok (.aload_n 0, 1) := by decide +kernel
theorem dl_609 : decode code 609 = .ok (.iload 4, 2) := by decide +kernel
theorem dl_611 : decode code 611 = .ok (.iconst 1, 1) := by decide +kernel
theorem dl_612 : decode code 612 = .ok (.iadd, 1) := by decide +kernel
theorem dl_613 : decode code 613 = .ok (.iaload, 1) := by decide +kernel
theorem dl_614 : decode code 614 = .ok (.aload_n 0, 1) := by decide +kernel
theorem dl_615 : decode code 615 = .ok (.iload 4, 2) := by decide +kernel
theorem dl_617 : decode code 617 = .ok (.iconst 2, 1) := by decide +kernel
theorem dl_618 : decode code 618 = .ok (.iadd, 1) := by decide +kernel
theorem dl_619 : decode code 619 = .ok (.iaload, 1) := by decide +kernel
theorem dl_620 : decode code 620 = .ok (.aload_n 0, 1) := by decide +kernel
theorem dl_621 : decode code 621 = .ok (.iload 4, 2) := by decide +kernel
theorem dl_623 : decode code 623 = .ok (.iconst 3, 1) := by decide +kernel
theorem dl_624 : decode code 624 = .ok (.iadd, 1) := by decide +kernel
theorem dl_625 : decode code 625 = .ok (.iaload, 1) := by decide +kernel
theorem dl_626 : decode code 626 = .ok (.invokevirtual 79, 3) := by decide +kernel
theorem dl_629 : decode code 629 = .ok (.aload_n 2, 1) := by decide +kernel
theorem dl_630 : decode code 630 = .ok (.aload_n 0, 1) := by decide +kernel
theorem dl_631 : decode code 631 = .ok (.iload 4, 2) := by decide +kernel
theorem dl_633 : decode code 633 = .ok (.iconst 1, 1) := by decide +kernel
theorem dl_634 : decode code 634 = .ok (.iadd, 1) := by decide +kernel
theorem dl_635 : decode code 635 = .ok (.iaload, 1) := by decide +kernel
theorem dl_636 : decode code 636 = .ok (.aload_n 0, 1) := by decide +kernel
theorem dl_637 : decode code 637 = .ok (.iload 4, 2) := by decide +kernel
theorem dl_639 : decode code 639 = .ok (.iconst 2, 1) := by decide +kernel
theorem dl_640 : decode code 640 = .ok (.iadd, 1) := by decide +kernel
theorem dl_641 : decode code 641 = .ok (.iaload, 1) := by decide +kernel
theorem dl_642 : decode code 642 = .ok (.aload_n 0, 1) := by decide +kernel
theorem dl_643 : decode code 643 = .ok (.iload 4, 2) := by decide +kernel
theorem dl_645 : decode code 645 = .ok (.iconst 3, 1) := by decide +kernel
theorem dl_646 : decode code 646 = .ok (.iadd, 1) := by decide +kernel
theorem dl_647 : decode code 647 = .ok (.iaload, 1) := by decide +kernel
theorem dl_648 : decode code 648 = .ok (.invokevirtual 83, 3) := by decide +kernel
theorem dl_651 : decode code 651 = .ok (.if_icmp .eq 472, 3) := by decide +kernel
theorem dl_654 : decode code 654 = .ok (.iconst 0, 1) := by decide +kernel
theorem dl_655 : decode code 655 = .ok (.ireturn, 1) := by decide +kernel
theorem dl_656 : decode code 656 = .ok (.aload_n 1, 1) := by decide +kernel
theorem dl_657 : decode code 657 = .ok (.aload_n 0, 1) := by decide +kernel
theorem dl_658 : decode code 658 = .ok (.iload 4, 2) := by decide +kernel
theorem dl_660 : decode code 660 = .ok (.iconst 1, 1) := by decide +kernel
theorem dl_661 : decode code 661 = .ok (.iadd, 1) := by decide +kernel
theorem dl_662 : decode code 662 = .ok (.iaload, 1) := by decide +kernel
theorem dl_663 : decode code 663 = .ok (.aload_n 0, 1) := by decide +kernel
theorem dl_664 : decode code 664 = .ok (.iload 4, 2) := by decide +kernel
theorem dl_666 : decode code 666 = .ok (.iconst 2, 1) := by decide +kernel
theorem dl_667 : decode code 667 = .ok (.iadd, 1) := by decide +kernel
theorem dl_668 : decode code 668 = .ok (.iaload, 1) := by decide +kernel
theorem dl_669 : decode code 669 = .ok (.invokevirtual 84, 3) := by decide +kernel
theorem dl_672 : decode code 672 = .ok (.aload_n 2, 1) := by decide +kernel
theorem dl_673 : decode code 673 = .ok (.aload_n 0, 1) := by decide +kernel
theorem dl_674 : decode code 674 = .ok (.iload 4, 2) := by decide +kernel
theorem dl_676 : decode code 676 = .ok (.iconst 1, 1) := by decide +kernel
theorem dl_677 : decode code 677 = .ok (.iadd, 1) := by decide +kernel
theorem dl_678 : decode code 678 = .ok (.iaload, 1) := by decide +kernel
theorem dl_679 : decode code 679 = .ok (.aload_n 0, 1) := by decide +kernel
theorem dl_680 : decode code 680 = .ok (.iload 4, 2) := by decide +kernel
theorem dl_682 : decode code 682 = .ok (.iconst 2, 1) := by decide +kernel
theorem dl_683 : decode code 683 = .ok (.iadd, 1) := by decide +kernel
theorem dl_684 : decode code 684 = .ok (.iaload, 1) := by decide +kernel
theorem dl_685 : decode code 685 = .ok (.invokevirtual 87, 3) := by decide +kernel
theorem dl_688 : decode code 688 = .ok (.lcmp, 1) := by decide +kernel
theorem dl_689 : decode code 689 = .ok (.ifCond .eq 434, 3) := by decide +kernel
theorem dl_692 : decode code 692 = .ok (.iconst 0, 1) := by decide +kernel
theorem dl_693 : decode code 693 = .ok (.ireturn, 1) := by decide +kernel
theorem dl_694 : decode code 694 = .ok (.aload_n 1, 1) := by decide +kernel
theorem dl_695 : decode code 695 = .ok (.aload_n 0, 1) := by decide +kernel
theorem dl_696 : decode code 696 = .ok (.iload 4, 2) := by decide +kernel
theorem dl_698 : decode code 698 = .ok (.iconst 1, 1) := by decide +kernel
theorem dl_699 : decode code 699 = .ok (.iadd, 1) := by decide +kernel
theorem dl_700 : decode code 700 = .ok (.iaload, 1) := by decide +kernel
theorem dl_701 : decode code 701 = .ok (.invokevirtual 88, 3) := by decide +kernel
theorem dl_704 : decode code 704 = .ok (.aload_n 2, 1) := by decide +kernel
theorem dl_705 : decode code 705 = .ok (.aload_n 0, 1) := by decide +kernel
theorem dl_706 : decode code 706 = .ok (.iload 4, 2) := by decide +kernel
theorem dl_708 : decode code 708 = .ok (.iconst 1, 1) := by decide +kernel
theorem dl_709 : decode code 709 = .ok (.iadd, 1) := by decide +kernel
theorem dl_710 : decode code 710 = .ok (.iaload, 1) := by decide +kernel
theorem dl_711 : decode code 711 = .ok (.invokevirtual 91, 3) := by decide +kernel
theorem dl_714 : decode code 714 = .ok (.if_icmp .eq 409, 3) := by decide +kernel
theorem dl_717 : decode code 717 = .ok (.iconst 0, 1) := by decide +kernel
theorem dl_718 : decode code 718 = .ok (.ireturn, 1) := by decide +kernel
theorem dl_719 : decode code 719 = .ok (.aload_n 1, 1) := by decide +kernel
theorem dl_720 : decode code 720 = .ok (.invokevirtual 92, 3) := by decide +kernel
theorem dl_723 : decode code 723 = .ok (.aload_n 2, 1) := by decide +kernel
theorem dl_724 : decode code 724 = .ok (.invokevirtual 95, 3) := by decide +kernel
theorem dl_727 : decode code 727 = .ok (.if_icmp .eq 396, 3) := by decide +kernel
theorem dl_730 : decode code 730 = .ok (.iconst 0, 1) := by decide +kernel
theorem dl_731 : decode code 731 = .ok (.ireturn, 1) := by decide +kernel
theorem dl_732 : decode code 732 = .ok (.aload_n 1, 1) := by decide +kernel
theorem dl_733 : decode code 733 = .ok (.aload_n 0, 1) := by decide +kernel
theorem dl_734 : decode code 734 = .ok (.iload 4, 2) := by decide +kernel
theorem dl_736 : decode code 736 = .ok (.iconst 1, 1) := by decide +kernel
theorem dl_737 : decode code 737 = .ok (.iadd, 1) := by decide +kernel
theorem dl_738 : decode code 738 = .ok (.iaload, 1) := by decide +kernel
theorem dl_739 : decode code 739 = .ok (.invokevirtual 96, 3) := by decide +kernel
theorem dl_742 : decode code 742 = .ok (.aload_n 2, 1) := by decide +kernel
theorem dl_743 : decode code 743 = .ok (.aload_n 0, 1) := by decide +kernel
theorem dl_744 : decode code 744 = .ok (.iload 4, 2) := by decide +kernel
theorem dl_746 : decode code 746 = .ok (.iconst 1, 1) := by decide +kernel
theorem dl_747 : decode code 747 = .ok (.iadd, 1) := by decide +kernel
theorem dl_748 : decode code 748 = .ok (.iaload, 1) := by decide +kernel
theorem dl_749 : decode code 749 = .ok (.invokevirtual 99, 3) := by decide +kernel
theorem dl_752 : decode code 752 = .ok (.lcmp, 1) := by decide +kernel
theorem dl_753 : decode code 753 = .ok (.ifCond .eq 370, 3) := by decide +kernel
theorem dl_756 : decode code 756 = .ok (.iconst 0, 1) := by decide +kernel
theorem dl_757 : decode code 757 = .ok (.ireturn, 1) := by decide +kernel
theorem dl_758 : decode code 758 = .ok (.aload_n 1, 1) := by decide +kernel
theorem dl_759 : decode code 759 = .ok (.aload_n 0, 1) := by decide +kernel
theorem dl_760 : decode code 760 = .ok (.iload 4, 2) := by decide +kernel
theorem dl_762 : decode code 762 = .ok (.iconst 1, 1) := by decide +kernel
theorem dl_763 : decode code 763 = .ok (.iadd, 1) := by decide +kernel
theorem dl_764 : decode code 764 = .ok (.iaload, 1) := by decide +kernel
theorem dl_765 : decode code 765 = .ok (.aload_n 0, 1) := by decide +kernel
theorem dl_766 : decode code 766 = .ok (.iload 4, 2) := by decide +kernel
theorem dl_768 : decode code 768 = .ok (.iconst 2, 1) := by decide +kernel
theorem dl_769 : decode code 769 = .ok (.iadd, 1) := by decide +kernel
theorem dl_770 : decode code 770 = .ok (.iaload, 1) := by decide +kernel
theorem dl_771 : decode code 771 = .ok (.aload_n 0, 1) := by decide +kernel
theorem dl_772 : decode code 772 = .ok (.iload 4, 2) := by decide +kernel
theorem dl_774 : decode code 774 = .ok (.iconst 3, 1) := by decide +kernel
theorem dl_775 : decode code 775 = .ok (.iadd, 1) := by decide +kernel
theorem dl_776 : decode code 776 = .ok (.iaload, 1) := by decide +kernel
theorem dl_777 : decode code 777 = .ok (.aload_n 0, 1) := by decide +kernel
theorem dl_778 : decode code 778 = .ok (.iload 4, 2) := by decide +kernel
theorem dl_780 : decode code 780 = .ok (.iconst 4, 1) := by decide +kernel
theorem dl_781 : decode code 781 = .ok (.iadd, 1) := by decide +kernel
theorem dl_782 : decode code 782 = .ok (.iaload, 1) := by decide +kernel
theorem dl_783 : decode code 783 = .ok (.invokevirtual 100, 3) := by decide +kernel
theorem dl_786 : decode code 786 = .ok (.aload_n 2, 1) := by decide +kernel
theorem dl_787 : decode code 787 = .ok (.aload_n 0, 1) := by decide +kernel
theorem dl_788 : decode code 788 = .ok (.iload 4, 2) := by decide +kernel
theorem dl_790 : decode code 790 = .ok (.iconst 1, 1) := by decide +kernel
theorem dl_791 : decode code 791 = .ok (.iadd, 1) := by decide +kernel
theorem dl_792 : decode code 792 = .ok (.iaload, 1) := by decide +kernel
