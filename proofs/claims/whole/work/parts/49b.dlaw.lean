theorem dl_465 : decode code 465 = .ok (.iconst 0, 1) := by decide +kernel
theorem dl_466 : decode code 466 = .ok (.ireturn, 1) := by decide +kernel
theorem dl_467 : decode code 467 = .ok (.aload_n 1, 1) := by decide +kernel
theorem dl_468 : decode code 468 = .ok (.aload_n 0, 1) := by decide +kernel
theorem dl_469 : decode code 469 = .ok (.iload_n 3, 1) := by decide +kernel
theorem dl_470 : decode code 470 = .ok (.iconst 1, 1) := by decide +kernel
theorem dl_471 : decode code 471 = .ok (.iadd, 1) := by decide +kernel
theorem dl_472 : decode code 472 = .ok (.iaload, 1) := by decide +kernel
theorem dl_473 : decode code 473 = .ok (.invokevirtual 53, 3) := by decide +kernel
theorem dl_476 : decode code 476 = .ok (.aload_n 2, 1) := by decide +kernel
theorem dl_477 : decode code 477 = .ok (.aload_n 0, 1) := by decide +kernel
theorem dl_478 : decode code 478 = .ok (.iload_n 3, 1) := by decide +kernel
theorem dl_479 : decode code 479 = .ok (.iconst 1, 1) := by decide +kernel
theorem dl_480 : decode code 480 = .ok (.iadd, 1) := by decide +kernel
theorem dl_481 : decode code 481 = .ok (.iaload, 1) := by decide +kernel
theorem dl_482 : decode code 482 = .ok (.invokevirtual 56, 3) := by decide +kernel
theorem dl_485 : decode code 485 = .ok (.if_icmp .eq 849, 3) := by decide +kernel
theorem dl_488 : decode code 488 = .ok (.iconst 0, 1) := by decide +kernel
theorem dl_489 : decode code 489 = .ok (.ireturn, 1) := by decide +kernel
theorem dl_490 : decode code 490 = .ok (.aload_n 1, 1) := by decide +kernel
theorem dl_491 : decode code 491 = .ok (.invokevirtual 57, 3) := by decide +kernel
theorem dl_494 : decode code 494 = .ok (.aload_n 2, 1) := by decide +kernel
theorem dl_495 : decode code 495 = .ok (.invokevirtual 60, 3) := by decide +kernel
theorem dl_498 : decode code 498 = .ok (.if_icmp .eq 836, 3) := by decide +kernel
theorem dl_501 : decode code 501 = .ok (.iconst 0, 1) := by decide +kernel
theorem dl_502 : decode code 502 = .ok (.ireturn, 1) := by decide +kernel
theorem dl_503 : decode code 503 = .ok (.aload_n 1, 1) := by decide +kernel
theorem dl_504 : decode code 504 = .ok (.aload_n 0, 1) := by decide +kernel
theorem dl_505 : decode code 505 = .ok (.iload_n 3, 1) := by decide +kernel
theorem dl_506 : decode code 506 = .ok (.iconst 1, 1) := by decide +kernel
theorem dl_507 : decode code 507 = .ok (.iadd, 1) := by decide +kernel
theorem dl_508 : decode code 508 = .ok (.iaload, 1) := by decide +kernel
theorem dl_509 : decode code 509 = .ok (.aload_n 0, 1) := by decide +kernel
theorem dl_510 : decode code 510 = .ok (.iload_n 3, 1) := by decide +kernel
theorem dl_511 : decode code 511 = .ok (.iconst 2, 1) := by decide +kernel
theorem dl_512 : decode code 512 = .ok (.iadd, 1) := by decide +kernel
theorem dl_513 : decode code 513 = .ok (.iaload, 1) := by decide +kernel
theorem dl_514 : decode code 514 = .ok (.aload_n 0, 1) := by decide +kernel
theorem dl_515 : decode code 515 = .ok (.iload_n 3, 1) := by decide +kernel
theorem dl_516 : decode code 516 = .ok (.iconst 3, 1) := by decide +kernel
theorem dl_517 : decode code 517 = .ok (.iadd, 1) := by decide +kernel
theorem dl_518 : decode code 518 = .ok (.iaload, 1) := by decide +kernel
theorem dl_519 : decode code 519 = .ok (.aload_n 0, 1) := by decide +kernel
theorem dl_520 : decode code 520 = .ok (.iload_n 3, 1) := by decide +kernel
theorem dl_521 : decode code 521 = .ok (.iconst 4, 1) := by decide +kernel
theorem dl_522 : decode code 522 = .ok (.iadd, 1) := by decide +kernel
theorem dl_523 : decode code 523 = .ok (.iaload, 1) := by decide +kernel
theorem dl_524 : decode code 524 = .ok (.invokevirtual 61, 3) := by decide +kernel
theorem dl_527 : decode code 527 = .ok (.aload_n 2, 1) := by decide +kernel
theorem dl_528 : decode code 528 = .ok (.aload_n 0, 1) := by decide +kernel
theorem dl_529 : decode code 529 = .ok (.iload_n 3, 1) := by decide +kernel
theorem dl_530 : decode code 530 = .ok (.iconst 1, 1) := by decide +kernel
theorem dl_531 : decode code 531 = .ok (.iadd, 1) := by decide +kernel
theorem dl_532 : decode code 532 = .ok (.iaload, 1) := by decide +kernel
theorem dl_533 : decode code 533 = .ok (.aload_n 0, 1) := by decide +kernel
theorem dl_534 : decode code 534 = .ok (.iload_n 3, 1) := by decide +kernel
theorem dl_535 : decode code 535 = .ok (.iconst 2, 1) := by decide +kernel
theorem dl_536 : decode code 536 = .ok (.iadd, 1) := by decide +kernel
theorem dl_537 : decode code 537 = .ok (.iaload, 1) := by decide +kernel
theorem dl_538 : decode code 538 = .ok (.aload_n 0, 1) := by decide +kernel
theorem dl_539 : decode code 539 = .ok (.iload_n 3, 1) := by decide +kernel
theorem dl_540 : decode code 540 = .ok (.iconst 3, 1) := by decide +kernel
theorem dl_541 : decode code 541 = .ok (.iadd, 1) := by decide +kernel
theorem dl_542 : decode code 542 = .ok (.iaload, 1) := by decide +kernel
theorem dl_543 : decode code 543 = .ok (.aload_n 0, 1) := by decide +kernel
theorem dl_544 : decode code 544 = .ok (.iload_n 3, 1) := by decide +kernel
theorem dl_545 : decode code 545 = .ok (.iconst 4, 1) := by decide +kernel
theorem dl_546 : decode code 546 = .ok (.iadd, 1) := by decide +kernel
theorem dl_547 : decode code 547 = .ok (.iaload, 1) := by decide +kernel
theorem dl_548 : decode code 548 = .ok (.invokevirtual 65, 3) := by decide +kernel
theorem dl_551 : decode code 551 = .ok (.if_icmp .eq 783, 3) := by decide +kernel
theorem dl_554 : decode code 554 = .ok (.iconst 0, 1) := by decide +kernel
theorem dl_555 : decode code 555 = .ok (.ireturn, 1) := by decide +kernel
theorem dl_556 : decode code 556 = .ok (.aload_n 1, 1) := by decide +kernel
theorem dl_557 : decode code 557 = .ok (.aload_n 0, 1) := by decide +kernel
theorem dl_558 : decode code 558 = .ok (.iload_n 3, 1) := by decide +kernel
theorem dl_559 : decode code 559 = .ok (.iconst 1, 1) := by decide +kernel
theorem dl_560 : decode code 560 = .ok (.iadd, 1) := by decide +kernel
theorem dl_561 : decode code 561 = .ok (.iaload, 1) := by decide +kernel
theorem dl_562 : decode code 562 = .ok (.aload_n 0, 1) := by decide +kernel
theorem dl_563 : decode code 563 = .ok (.iload_n 3, 1) := by decide +kernel
theorem dl_564 : decode code 564 = .ok (.iconst 2, 1) := by decide +kernel
theorem dl_565 : decode code 565 = .ok (.iadd, 1) := by decide +kernel
theorem dl_566 : decode code 566 = .ok (.iaload, 1) := by decide +kernel
theorem dl_567 : decode code 567 = .ok (.invokevirtual 66, 3) := by decide +kernel
theorem dl_570 : decode code 570 = .ok (.aload_n 2, 1) := by decide +kernel
theorem dl_571 : decode code 571 = .ok (.aload_n 0, 1) := by decide +kernel
theorem dl_572 : decode code 572 = .ok (.iload_n 3, 1) := by decide +kernel
theorem dl_573 : decode code 573 = .ok (.iconst 1, 1) := by decide +kernel
theorem dl_574 : decode code 574 = .ok (.iadd, 1) := by decide +kernel
theorem dl_575 : decode code 575 = .ok (.iaload, 1) := by decide +kernel
theorem dl_576 : decode code 576 = .ok (.aload_n 0, 1) := by decide +kernel
theorem dl_577 : decode code 577 = .ok (.iload_n 3, 1) := by decide +kernel
theorem dl_578 : decode code 578 = .ok (.iconst 2, 1) := by decide +kernel
theorem dl_579 : decode code 579 = .ok (.iadd, 1) := by decide +kernel
theorem dl_580 : decode code 580 = .ok (.iaload, 1) := by decide +kernel
theorem dl_581 : decode code 581 = .ok (.invokevirtual 69, 3) := by decide +kernel
theorem dl_584 : decode code 584 = .ok (.if_icmp .eq 750, 3) := by decide +kernel
theorem dl_587 : decode code 587 = .ok (.iconst 0, 1) := by decide +kernel
theorem dl_588 : decode code 588 = .ok (.ireturn, 1) := by decide +kernel
theorem dl_589 : decode code 589 = .ok (.aload_n 1, 1) := by decide +kernel
theorem dl_590 : decode code 590 = .ok (.aload_n 0, 1) := by decide +kernel
theorem dl_591 : decode code 591 = .ok (.iload_n 3, 1) := by decide +kernel
theorem dl_592 : decode code 592 = .ok (.iconst 1, 1) := by decide +kernel
theorem dl_593 : decode code 593 = .ok (.iadd, 1) := by decide +kernel
theorem dl_594 : decode code 594 = .ok (.iaload, 1) := by decide +kernel
theorem dl_595 : decode code 595 = .ok (.invokevirtual 70, 3) := by decide +kernel
theorem dl_598 : decode code 598 = .ok (.aload_n 2, 1) := by decide +kernel
theorem dl_599 : decode code 599 = .ok (.aload_n 0, 1) := by decide +kernel
theorem dl_600 : decode code 600 = .ok (.iload_n 3, 1) := by decide +kernel
theorem dl_601 : decode code 601 = .ok (.iconst 1, 1) := by decide +kernel
theorem dl_602 : decode code 602 = .ok (.iadd, 1) := by decide +kernel
theorem dl_603 : decode code 603 = .ok (.iaload, 1) := by decide +kernel
theorem dl_604 : decode code 604 = .ok (.invokevirtual 73, 3) := by decide +kernel
theorem dl_607 : decode code 607 = .ok (.if_icmp .eq 727, 3) := by decide +kernel
theorem dl_610 : decode code 610 = .ok (.iconst 0, 1) := by decide +kernel
theorem dl_611 : decode code 611 = .ok (.ireturn, 1) := by decide +kernel
theorem dl_612 : decode code 612 = .ok (.aload_n 1, 1) := by decide +kernel
theorem dl_613 : decode code 613 = .ok (.invokevirtual 74, 3) := by decide +kernel
theorem dl_616 : decode code 616 = .ok (.aload_n 2, 1) := by decide +kernel
theorem dl_617 : decode code 617 = .ok (.invokevirtual 77, 3) := by decide +kernel
theorem dl_620 : decode code 620 = .ok (.if_icmp .eq 714, 3) := by decide +kernel
theorem dl_623 : decode code 623 = .ok (.iconst 0, 1) := by decide +kernel
theorem dl_624 : decode code 624 = .ok (.ireturn, 1) := by decide +kernel
theorem dl_625 : decode code 625 = .ok (.aload_n 1, 1) := by decide +kernel
theorem dl_626 : decode code 626 = .ok (.aload_n 0, 1) := by decide +kernel
theorem dl_627 : decode code 627 = .ok (.iload_n 3, 1) := by decide +kernel
theorem dl_628 : decode code 628 = .ok (.iconst 1, 1) := by decide +kernel
theorem dl_629 : decode code 629 = .ok (.iadd, 1) := by decide +kernel
theorem dl_630 : decode code 630 = .ok (.iaload, 1) := by decide +kernel
theorem dl_631 : decode code 631 = .ok (.invokevirtual 78, 3) := by decide +kernel
theorem dl_634 : decode code 634 = .ok (.aload_n 2, 1) := by decide +kernel
theorem dl_635 : decode code 635 = .ok (.aload_n 0, 1) := by decide +kernel
theorem dl_636 : decode code 636 = .ok (.iload_n 3, 1) := by decide +kernel
theorem dl_637 : decode code 637 = .ok (.iconst 1, 1) := by decide +kernel
theorem dl_638 : decode code 638 = .ok (.iadd, 1) := by decide +kernel
theorem dl_639 : decode code 639 = .ok (.iaload, 1) := by decide +kernel
theorem dl_640 : decode code 640 = .ok (.invokevirtual 81, 3) := by decide +kernel
theorem dl_643 : decode code 643 = .ok (.if_icmp .eq 691, 3) := by decide +kernel
theorem dl_646 : decode code 646 = .ok (.iconst 0, 1) := by decide +kernel
theorem dl_647 : decode code 647 = .ok (.ireturn, 1) := by decide +kernel
theorem dl_648 : decode code 648 = .ok (.aload_n 1, 1) := by decide +kernel
theorem dl_649 : decode code 649 = .ok (.aload_n 0, 1) := by decide +kernel
theorem dl_650 : decode code 650 = .ok (.iload_n 3, 1) := by decide +kernel
theorem dl_651 : decode code 651 = .ok (.iconst 1, 1) := by decide +kernel
theorem dl_652 : decode code 652 = .ok (.iadd, 1) := by decide +kernel
theorem dl_653 : decode code 653 = .ok (.iaload, 1) := by decide +kernel
theorem dl_654 : decode code 654 = .ok (.aload_n 0, 1) := by decide +kernel
theorem dl_655 : decode code 655 = .ok (.iload_n 3, 1) := by decide +kernel
theorem dl_656 : decode code 656 = .ok (.iconst 2, 1) := by decide +kernel
theorem dl_657 : decode code 657 = .ok (.iadd, 1) := by decide +kernel
theorem dl_658 : decode code 658 = .ok (.iaload, 1) := by decide +kernel
theorem dl_659 : decode code 659 = .ok (.invokevirtual 82, 3) := by decide +kernel
theorem dl_662 : decode code 662 = .ok (.aload_n 2, 1) := by decide +kernel
theorem dl_663 : decode code 663 = .ok (.aload_n 0, 1) := by decide +kernel
theorem dl_664 : decode code 664 = .ok (.iload_n 3, 1) := by decide +kernel
theorem dl_665 : decode code 665 = .ok (.iconst 1, 1) := by decide +kernel
theorem dl_666 : decode code 666 = .ok (.iadd, 1) := by decide +kernel
theorem dl_667 : decode code 667 = .ok (.iaload, 1) := by decide +kernel
theorem dl_668 : decode code 668 = .ok (.aload_n 0, 1) := by decide +kernel
theorem dl_669 : decode code 669 = .ok (.iload_n 3, 1) := by decide +kernel
theorem dl_670 : decode code 670 = .ok (.iconst 2, 1) := by decide +kernel
theorem dl_671 : decode code 671 = .ok (.iadd, 1) := by decide +kernel
theorem dl_672 : decode code 672 = .ok (.iaload, 1) := by decide +kernel
theorem dl_673 : decode code 673 = .ok (.invokevirtual 85, 3) := by decide +kernel
theorem dl_676 : decode code 676 = .ok (.if_icmp .eq 658, 3) := by decide +kernel
theorem dl_679 : decode code 679 = .ok (.iconst 0, 1) := by decide +kernel
theorem dl_680 : decode code 680 = .ok (.ireturn, 1) := by decide +kernel
theorem dl_681 : decode code 681 = .ok (.aload_n 1, 1) := by decide +kernel
theorem dl_682 : decode code 682 = .ok (.invokevirtual 86, 3) := by decide +kernel
theorem dl_685 : decode code 685 = .ok (.aload_n 2, 1) := by decide +kernel
theorem dl_686 : decode code 686 = .ok (.invokevirtual 89, 3) := by decide +kernel
theorem dl_689 : decode code 689 = .ok (.if_icmp .eq 645, 3) := by decide +kernel
theorem dl_692 : decode code 692 = .ok (.iconst 0, 1) := by decide +kernel
theorem dl_693 : decode code 693 = .ok (.ireturn, 1) := by decide +kernel
theorem dl_694 : decode code 694 = .ok (.aload_n 1, 1) := by decide +kernel
theorem dl_695 : decode code 695 = .ok (.aload_n 0, 1) := by decide +kernel
theorem dl_696 : decode code 696 = .ok (.iload_n 3, 1) := by decide +kernel
theorem dl_697 : decode code 697 = .ok (.iconst 1, 1) := by decide +kernel
theorem dl_698 : decode code 698 = .ok (.iadd, 1) := by decide +kernel
theorem dl_699 : decode code 699 = .ok (.iaload, 1) := by decide +kernel
theorem dl_700 : decode code 700 = .ok (.aload_n 0, 1) := by decide +kernel
theorem dl_701 : decode code 701 = .ok (.iload_n 3, 1) := by decide +kernel
theorem dl_702 : decode code 702 = .ok (.iconst 2, 1) := by decide +kernel
theorem dl_703 : decode code 703 = .ok (.iadd, 1) := by decide +kernel
theorem dl_704 : decode code 704 = .ok (.iaload, 1) := by decide +kernel
theorem dl_705 : decode code 705 = .ok (.aload_n 0, 1) := by decide +kernel
theorem dl_706 : decode code 706 = .ok (.iload_n 3, 1) := by decide +kernel
theorem dl_707 : decode code 707 = .ok (.iconst 3, 1) := by decide +kernel
theorem dl_708 : decode code 708 = .ok (.iadd, 1) := by decide +kernel
theorem dl_709 : decode code 709 = .ok (.iaload, 1) := by decide +kernel
theorem dl_710 : decode code 710 = .ok (.invokevirtual 90, 3) := by decide +kernel
theorem dl_713 : decode code 713 = .ok (.aload_n 2, 1) := by decide +kernel
theorem dl_714 : decode code 714 = .ok (.aload_n 0, 1) := by decide +kernel
theorem dl_715 : decode code 715 = .ok (.iload_n 3, 1) := by decide +kernel
theorem dl_716 : decode code 716 = .ok (.iconst 1, 1) := by decide +kernel
theorem dl_717 : decode code 717 = .ok (.iadd, 1) := by decide +kernel
theorem dl_718 : decode code 718 = .ok (.iaload, 1) := by decide +kernel
theorem dl_719 : decode code 719 = .ok (.aload_n 0, 1) := by decide +kernel
theorem dl_720 : decode code 720 = .ok (.iload_n 3, 1) := by decide +kernel
theorem dl_721 : decode code 721 = .ok (.iconst 2, 1) := by decide +kernel
theorem dl_722 : decode code 722 = .ok (.iadd, 1) := by decide +kernel
theorem dl_723 : decode code 723 = .ok (.iaload, 1) := by decide +kernel
theorem dl_724 : decode code 724 = .ok (.aload_n 0, 1) := by decide +kernel
theorem dl_725 : decode code 725 = .ok (.iload_n 3, 1) := by decide +kernel
theorem dl_726 : decode code 726 = .ok (.iconst 3, 1) := by decide +kernel
theorem dl_727 : decode code 727 = .ok (.iadd, 1) := by decide +kernel
theorem dl_728 : decode code 728 = .ok (.iaload, 1) := by decide +kernel
theorem dl_729 : decode code 729 = .ok (.invokevirtual 93, 3) := by decide +kernel
theorem dl_732 : decode code 732 = .ok (.if_icmp .eq 602, 3) := by decide +kernel
theorem dl_735 : decode code 735 = .ok (.iconst 0, 1) := by decide +kernel
theorem dl_736 : decode code 736 = .ok (.ireturn, 1) := by decide +kernel
theorem dl_737 : decode code 737 = .ok (.aload_n 1, 1) := by decide +kernel
theorem dl_738 : decode code 738 = .ok (.aload_n 0, 1) := by decide +kernel
theorem dl_739 : decode code 739 = .ok (.iload_n 3, 1) := by decide +kernel
theorem dl_740 : decode code 740 = .ok (.iconst 1, 1) := by decide +kernel
theorem dl_741 : decode code 741 = .ok (.iadd, 1) := by decide +kernel
theorem dl_742 : decode code 742 = .ok (.iaload, 1) := by decide +kernel
theorem dl_743 : decode code 743 = .ok (.invokevirtual 94, 3) := by decide +kernel
theorem dl_746 : decode code 746 = .ok (.aload_n 2, 1) := by decide +kernel
theorem dl_747 : decode code 747 = .ok (.aload_n 0, 1) := by decide +kernel
theorem dl_748 : decode code 748 = .ok (.iload_n 3, 1) := by decide +kernel
theorem dl_749 : decode code 749 = .ok (.iconst 1, 1) := by decide +kernel
theorem dl_750 : decode code 750 = .ok (.iadd, 1) := by decide +kernel
theorem dl_751 : decode code 751 = .ok (.iaload, 1) := by decide +kernel
theorem dl_752 : decode code 752 = .ok (.invokevirtual 97, 3) := by decide +kernel
theorem dl_755 : decode code 755 = .ok (.if_icmp .eq 579, 3) := by decide +kernel
theorem dl_758 : decode code 758 = .ok (.iconst 0, 1) := by decide +kernel
theorem dl_759 : decode code 759 = .ok (.ireturn, 1) := by decide +kernel
theorem dl_760 : decode code 760 = .ok (.aload_n 1, 1) := by decide +kernel
theorem dl_761 : decode code 761 = .ok (.invokevirtual 98, 3) := by decide +kernel
theorem dl_764 : decode code 764 = .ok (.aload_n 2, 1) := by decide +kernel
theorem dl_765 : decode code 765 = .ok (.invokevirtual 101, 3) := by decide +kernel
