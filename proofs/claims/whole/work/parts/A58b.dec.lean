/-! decode rows of EggTraysModel() -/
theorem dX11_init_473 : decode cX11_init 473 = .ok (.iastore, 1) := by decide +kernel
theorem dX11_init_474 : decode cX11_init 474 = .ok (.dup, 1) := by decide +kernel
theorem dX11_init_475 : decode cX11_init 475 = .ok (.bipush 77, 2) := by decide +kernel
theorem dX11_init_477 : decode cX11_init 477 = .ok (.bipush 110, 2) := by decide +kernel
theorem dX11_init_479 : decode cX11_init 479 = .ok (.iastore, 1) := by decide +kernel
theorem dX11_init_480 : decode cX11_init 480 = .ok (.dup, 1) := by decide +kernel
theorem dX11_init_481 : decode cX11_init 481 = .ok (.bipush 78, 2) := by decide +kernel
theorem dX11_init_483 : decode cX11_init 483 = .ok (.bipush 111, 2) := by decide +kernel
theorem dX11_init_485 : decode cX11_init 485 = .ok (.iastore, 1) := by decide +kernel
theorem dX11_init_486 : decode cX11_init 486 = .ok (.dup, 1) := by decide +kernel
theorem dX11_init_487 : decode cX11_init 487 = .ok (.bipush 79, 2) := by decide +kernel
theorem dX11_init_489 : decode cX11_init 489 = .ok (.bipush 116, 2) := by decide +kernel
theorem dX11_init_491 : decode cX11_init 491 = .ok (.iastore, 1) := by decide +kernel
theorem dX11_init_492 : decode cX11_init 492 = .ok (.dup, 1) := by decide +kernel
theorem dX11_init_493 : decode cX11_init 493 = .ok (.bipush 80, 2) := by decide +kernel
theorem dX11_init_495 : decode cX11_init 495 = .ok (.bipush 32, 2) := by decide +kernel
theorem dX11_init_497 : decode cX11_init 497 = .ok (.iastore, 1) := by decide +kernel
theorem dX11_init_498 : decode cX11_init 498 = .ok (.dup, 1) := by decide +kernel
theorem dX11_init_499 : decode cX11_init 499 = .ok (.bipush 81, 2) := by decide +kernel
theorem dX11_init_501 : decode cX11_init 501 = .ok (.bipush 119, 2) := by decide +kernel
theorem dX11_init_503 : decode cX11_init 503 = .ok (.iastore, 1) := by decide +kernel
theorem dX11_init_504 : decode cX11_init 504 = .ok (.dup, 1) := by decide +kernel
theorem dX11_init_505 : decode cX11_init 505 = .ok (.bipush 82, 2) := by decide +kernel
theorem dX11_init_507 : decode cX11_init 507 = .ok (.bipush 97, 2) := by decide +kernel
theorem dX11_init_509 : decode cX11_init 509 = .ok (.iastore, 1) := by decide +kernel
theorem dX11_init_510 : decode cX11_init 510 = .ok (.dup, 1) := by decide +kernel
theorem dX11_init_511 : decode cX11_init 511 = .ok (.bipush 83, 2) := by decide +kernel
theorem dX11_init_513 : decode cX11_init 513 = .ok (.bipush 110, 2) := by decide +kernel
theorem dX11_init_515 : decode cX11_init 515 = .ok (.iastore, 1) := by decide +kernel
theorem dX11_init_516 : decode cX11_init 516 = .ok (.dup, 1) := by decide +kernel
theorem dX11_init_517 : decode cX11_init 517 = .ok (.bipush 84, 2) := by decide +kernel
theorem dX11_init_519 : decode cX11_init 519 = .ok (.bipush 116, 2) := by decide +kernel
theorem dX11_init_521 : decode cX11_init 521 = .ok (.iastore, 1) := by decide +kernel
theorem dX11_init_522 : decode cX11_init 522 = .ok (.dup, 1) := by decide +kernel
theorem dX11_init_523 : decode cX11_init 523 = .ok (.bipush 85, 2) := by decide +kernel
theorem dX11_init_525 : decode cX11_init 525 = .ok (.bipush 32, 2) := by decide +kernel
theorem dX11_init_527 : decode cX11_init 527 = .ok (.iastore, 1) := by decide +kernel
theorem dX11_init_528 : decode cX11_init 528 = .ok (.dup, 1) := by decide +kernel
theorem dX11_init_529 : decode cX11_init 529 = .ok (.bipush 86, 2) := by decide +kernel
theorem dX11_init_531 : decode cX11_init 531 = .ok (.bipush 114, 2) := by decide +kernel
theorem dX11_init_533 : decode cX11_init 533 = .ok (.iastore, 1) := by decide +kernel
theorem dX11_init_534 : decode cX11_init 534 = .ok (.dup, 1) := by decide +kernel
theorem dX11_init_535 : decode cX11_init 535 = .ok (.bipush 87, 2) := by decide +kernel
theorem dX11_init_537 : decode cX11_init 537 = .ok (.bipush 111, 2) := by decide +kernel
theorem dX11_init_539 : decode cX11_init 539 = .ok (.iastore, 1) := by decide +kernel
theorem dX11_init_540 : decode cX11_init 540 = .ok (.dup, 1) := by decide +kernel
theorem dX11_init_541 : decode cX11_init 541 = .ok (.bipush 88, 2) := by decide +kernel
theorem dX11_init_543 : decode cX11_init 543 = .ok (.bipush 111, 2) := by decide +kernel
theorem dX11_init_545 : decode cX11_init 545 = .ok (.iastore, 1) := by decide +kernel
theorem dX11_init_546 : decode cX11_init 546 = .ok (.dup, 1) := by decide +kernel
theorem dX11_init_547 : decode cX11_init 547 = .ok (.bipush 89, 2) := by decide +kernel
theorem dX11_init_549 : decode cX11_init 549 = .ok (.bipush 109, 2) := by decide +kernel
theorem dX11_init_551 : decode cX11_init 551 = .ok (.iastore, 1) := by decide +kernel
theorem dX11_init_552 : decode cX11_init 552 = .ok (.dup, 1) := by decide +kernel
theorem dX11_init_553 : decode cX11_init 553 = .ok (.bipush 90, 2) := by decide +kernel
theorem dX11_init_555 : decode cX11_init 555 = .ok (.bipush 32, 2) := by decide +kernel
theorem dX11_init_557 : decode cX11_init 557 = .ok (.iastore, 1) := by decide +kernel
theorem dX11_init_558 : decode cX11_init 558 = .ok (.dup, 1) := by decide +kernel
theorem dX11_init_559 : decode cX11_init 559 = .ok (.bipush 91, 2) := by decide +kernel
theorem dX11_init_561 : decode cX11_init 561 = .ok (.bipush 104, 2) := by decide +kernel
theorem dX11_init_563 : decode cX11_init 563 = .ok (.iastore, 1) := by decide +kernel
theorem dX11_init_564 : decode cX11_init 564 = .ok (.dup, 1) := by decide +kernel
theorem dX11_init_565 : decode cX11_init 565 = .ok (.bipush 92, 2) := by decide +kernel
theorem dX11_init_567 : decode cX11_init 567 = .ok (.bipush 101, 2) := by decide +kernel
theorem dX11_init_569 : decode cX11_init 569 = .ok (.iastore, 1) := by decide +kernel
theorem dX11_init_570 : decode cX11_init 570 = .ok (.dup, 1) := by decide +kernel
theorem dX11_init_571 : decode cX11_init 571 = .ok (.bipush 93, 2) := by decide +kernel
theorem dX11_init_573 : decode cX11_init 573 = .ok (.bipush 114, 2) := by decide +kernel
theorem dX11_init_575 : decode cX11_init 575 = .ok (.iastore, 1) := by decide +kernel
theorem dX11_init_576 : decode cX11_init 576 = .ok (.dup, 1) := by decide +kernel
theorem dX11_init_577 : decode cX11_init 577 = .ok (.bipush 94, 2) := by decide +kernel
theorem dX11_init_579 : decode cX11_init 579 = .ok (.bipush 101, 2) := by decide +kernel
theorem dX11_init_581 : decode cX11_init 581 = .ok (.iastore, 1) := by decide +kernel
theorem dX11_init_582 : decode cX11_init 582 = .ok (.dup, 1) := by decide +kernel
theorem dX11_init_583 : decode cX11_init 583 = .ok (.bipush 95, 2) := by decide +kernel
theorem dX11_init_585 : decode cX11_init 585 = .ok (.bipush 32, 2) := by decide +kernel
theorem dX11_init_587 : decode cX11_init 587 = .ok (.iastore, 1) := by decide +kernel
theorem dX11_init_588 : decode cX11_init 588 = .ok (.dup, 1) := by decide +kernel
theorem dX11_init_589 : decode cX11_init 589 = .ok (.bipush 96, 2) := by decide +kernel
theorem dX11_init_591 : decode cX11_init 591 = .ok (.bipush 97, 2) := by decide +kernel
theorem dX11_init_593 : decode cX11_init 593 = .ok (.iastore, 1) := by decide +kernel
theorem dX11_init_594 : decode cX11_init 594 = .ok (.dup, 1) := by decide +kernel
theorem dX11_init_595 : decode cX11_init 595 = .ok (.bipush 97, 2) := by decide +kernel
theorem dX11_init_597 : decode cX11_init 597 = .ok (.bipush 103, 2) := by decide +kernel
theorem dX11_init_599 : decode cX11_init 599 = .ok (.iastore, 1) := by decide +kernel
theorem dX11_init_600 : decode cX11_init 600 = .ok (.dup, 1) := by decide +kernel
theorem dX11_init_601 : decode cX11_init 601 = .ok (.bipush 98, 2) := by decide +kernel
theorem dX11_init_603 : decode cX11_init 603 = .ok (.bipush 101, 2) := by decide +kernel
theorem dX11_init_605 : decode cX11_init 605 = .ok (.iastore, 1) := by decide +kernel
theorem dX11_init_606 : decode cX11_init 606 = .ok (.dup, 1) := by decide +kernel
theorem dX11_init_607 : decode cX11_init 607 = .ok (.bipush 99, 2) := by decide +kernel
theorem dX11_init_609 : decode cX11_init 609 = .ok (.bipush 32, 2) := by decide +kernel
theorem dX11_init_611 : decode cX11_init 611 = .ok (.iastore, 1) := by decide +kernel
theorem dX11_init_612 : decode cX11_init 612 = .ok (.dup, 1) := by decide +kernel
theorem dX11_init_613 : decode cX11_init 613 = .ok (.bipush 100, 2) := by decide +kernel
theorem dX11_init_615 : decode cX11_init 615 = .ok (.bipush 108, 2) := by decide +kernel
theorem dX11_init_617 : decode cX11_init 617 = .ok (.iastore, 1) := by decide +kernel
theorem dX11_init_618 : decode cX11_init 618 = .ok (.dup, 1) := by decide +kernel
theorem dX11_init_619 : decode cX11_init 619 = .ok (.bipush 101, 2) := by decide +kernel
theorem dX11_init_621 : decode cX11_init 621 = .ok (.bipush 105, 2) := by decide +kernel
theorem dX11_init_623 : decode cX11_init 623 = .ok (.iastore, 1) := by decide +kernel
theorem dX11_init_624 : decode cX11_init 624 = .ok (.dup, 1) := by decide +kernel
theorem dX11_init_625 : decode cX11_init 625 = .ok (.bipush 102, 2) := by decide +kernel
theorem dX11_init_627 : decode cX11_init 627 = .ok (.bipush 110, 2) := by decide +kernel
theorem dX11_init_629 : decode cX11_init 629 = .ok (.iastore, 1) := by decide +kernel
theorem dX11_init_630 : decode cX11_init 630 = .ok (.dup, 1) := by decide +kernel
theorem dX11_init_631 : decode cX11_init 631 = .ok (.bipush 103, 2) := by decide +kernel
theorem dX11_init_633 : decode cX11_init 633 = .ok (.bipush 101, 2) := by decide +kernel
theorem dX11_init_635 : decode cX11_init 635 = .ok (.iastore, 1) := by decide +kernel
theorem dX11_init_636 : decode cX11_init 636 = .ok (.dup, 1) := by decide +kernel
theorem dX11_init_637 : decode cX11_init 637 = .ok (.bipush 104, 2) := by decide +kernel
theorem dX11_init_639 : decode cX11_init 639 = .ok (.bipush 32, 2) := by decide +kernel
theorem dX11_init_641 : decode cX11_init 641 = .ok (.iastore, 1) := by decide +kernel
theorem dX11_init_642 : decode cX11_init 642 = .ok (.dup, 1) := by decide +kernel
theorem dX11_init_643 : decode cX11_init 643 = .ok (.bipush 105, 2) := by decide +kernel
theorem dX11_init_645 : decode cX11_init 645 = .ok (.bipush 108, 2) := by decide +kernel
theorem dX11_init_647 : decode cX11_init 647 = .ok (.iastore, 1) := by decide +kernel
theorem dX11_init_648 : decode cX11_init 648 = .ok (.dup, 1) := by decide +kernel
theorem dX11_init_649 : decode cX11_init 649 = .ok (.bipush 106, 2) := by decide +kernel
theorem dX11_init_651 : decode cX11_init 651 = .ok (.bipush 97, 2) := by decide +kernel
theorem dX11_init_653 : decode cX11_init 653 = .ok (.iastore, 1) := by decide +kernel
theorem dX11_init_654 : decode cX11_init 654 = .ok (.dup, 1) := by decide +kernel
theorem dX11_init_655 : decode cX11_init 655 = .ok (.bipush 107, 2) := by decide +kernel
theorem dX11_init_657 : decode cX11_init 657 = .ok (.bipush 116, 2) := by decide +kernel
theorem dX11_init_659 : decode cX11_init 659 = .ok (.iastore, 1) := by decide +kernel
theorem dX11_init_660 : decode cX11_init 660 = .ok (.dup, 1) := by decide +kernel
theorem dX11_init_661 : decode cX11_init 661 = .ok (.bipush 108, 2) := by decide +kernel
theorem dX11_init_663 : decode cX11_init 663 = .ok (.bipush 101, 2) := by decide +kernel
theorem dX11_init_665 : decode cX11_init 665 = .ok (.iastore, 1) := by decide +kernel
theorem dX11_init_666 : decode cX11_init 666 = .ok (.dup, 1) := by decide +kernel
theorem dX11_init_667 : decode cX11_init 667 = .ok (.bipush 109, 2) := by decide +kernel
theorem dX11_init_669 : decode cX11_init 669 = .ok (.bipush 32, 2) := by decide +kernel
theorem dX11_init_671 : decode cX11_init 671 = .ok (.iastore, 1) := by decide +kernel
theorem dX11_init_672 : decode cX11_init 672 = .ok (.dup, 1) := by decide +kernel
theorem dX11_init_673 : decode cX11_init 673 = .ok (.bipush 110, 2) := by decide +kernel
theorem dX11_init_675 : decode cX11_init 675 = .ok (.bipush 115, 2) := by decide +kernel
theorem dX11_init_677 : decode cX11_init 677 = .ok (.iastore, 1) := by decide +kernel
theorem dX11_init_678 : decode cX11_init 678 = .ok (.dup, 1) := by decide +kernel
theorem dX11_init_679 : decode cX11_init 679 = .ok (.bipush 111, 2) := by decide +kernel
theorem dX11_init_681 : decode cX11_init 681 = .ok (.bipush 105, 2) := by decide +kernel
theorem dX11_init_683 : decode cX11_init 683 = .ok (.iastore, 1) := by decide +kernel
theorem dX11_init_684 : decode cX11_init 684 = .ok (.dup, 1) := by decide +kernel
theorem dX11_init_685 : decode cX11_init 685 = .ok (.bipush 112, 2) := by decide +kernel
theorem dX11_init_687 : decode cX11_init 687 = .ok (.bipush 122, 2) := by decide +kernel
theorem dX11_init_689 : decode cX11_init 689 = .ok (.iastore, 1) := by decide +kernel
theorem dX11_init_690 : decode cX11_init 690 = .ok (.dup, 1) := by decide +kernel
theorem dX11_init_691 : decode cX11_init 691 = .ok (.bipush 113, 2) := by decide +kernel
theorem dX11_init_693 : decode cX11_init 693 = .ok (.bipush 101, 2) := by decide +kernel
theorem dX11_init_695 : decode cX11_init 695 = .ok (.iastore, 1) := by decide +kernel
theorem dX11_init_696 : decode cX11_init 696 = .ok (.dup, 1) := by decide +kernel
theorem dX11_init_697 : decode cX11_init 697 = .ok (.bipush 114, 2) := by decide +kernel
theorem dX11_init_699 : decode cX11_init 699 = .ok (.bipush 32, 2) := by decide +kernel
theorem dX11_init_701 : decode cX11_init 701 = .ok (.iastore, 1) := by decide +kernel
theorem dX11_init_702 : decode cX11_init 702 = .ok (.dup, 1) := by decide +kernel
theorem dX11_init_703 : decode cX11_init 703 = .ok (.bipush 115, 2) := by decide +kernel
theorem dX11_init_705 : decode cX11_init 705 = .ok (.bipush 116, 2) := by decide +kernel
theorem dX11_init_707 : decode cX11_init 707 = .ok (.iastore, 1) := by decide +kernel
theorem dX11_init_708 : decode cX11_init 708 = .ok (.dup, 1) := by decide +kernel
theorem dX11_init_709 : decode cX11_init 709 = .ok (.bipush 116, 2) := by decide +kernel
theorem dX11_init_711 : decode cX11_init 711 = .ok (.bipush 97, 2) := by decide +kernel
theorem dX11_init_713 : decode cX11_init 713 = .ok (.iastore, 1) := by decide +kernel
theorem dX11_init_714 : decode cX11_init 714 = .ok (.dup, 1) := by decide +kernel
theorem dX11_init_715 : decode cX11_init 715 = .ok (.bipush 117, 2) := by decide +kernel
theorem dX11_init_717 : decode cX11_init 717 = .ok (.bipush 107, 2) := by decide +kernel
theorem dX11_init_719 : decode cX11_init 719 = .ok (.iastore, 1) := by decide +kernel
theorem dX11_init_720 : decode cX11_init 720 = .ok (.dup, 1) := by decide +kernel
theorem dX11_init_721 : decode cX11_init 721 = .ok (.bipush 118, 2) := by decide +kernel
theorem dX11_init_723 : decode cX11_init 723 = .ok (.bipush 101, 2) := by decide +kernel
theorem dX11_init_725 : decode cX11_init 725 = .ok (.iastore, 1) := by decide +kernel
theorem dX11_init_726 : decode cX11_init 726 = .ok (.dup, 1) := by decide +kernel
theorem dX11_init_727 : decode cX11_init 727 = .ok (.bipush 119, 2) := by decide +kernel
theorem dX11_init_729 : decode cX11_init 729 = .ok (.bipush 110, 2) := by decide +kernel
theorem dX11_init_731 : decode cX11_init 731 = .ok (.iastore, 1) := by decide +kernel
theorem dX11_init_732 : decode cX11_init 732 = .ok (.dup, 1) := by decide +kernel
theorem dX11_init_733 : decode cX11_init 733 = .ok (.bipush 120, 2) := by decide +kernel
theorem dX11_init_735 : decode cX11_init 735 = .ok (.bipush 32, 2) := by decide +kernel
theorem dX11_init_737 : decode cX11_init 737 = .ok (.iastore, 1) := by decide +kernel
theorem dX11_init_738 : decode cX11_init 738 = .ok (.putfield 13, 3) := by decide +kernel
theorem dX11_init_741 : decode cX11_init 741 = .ok (.aload_n 0, 1) := by decide +kernel
theorem dX11_init_742 : decode cX11_init 742 = .ok (.iconst (-1), 1) := by decide +kernel
theorem dX11_init_743 : decode cX11_init 743 = .ok (.putfield 16, 3) := by decide +kernel
theorem dX11_init_746 : decode cX11_init 746 = .ok (.aload_n 0, 1) := by decide +kernel
theorem dX11_init_747 : decode cX11_init 747 = .ok (.bipush 10, 2) := by decide +kernel
theorem dX11_init_749 : decode cX11_init 749 = .ok (.newarray .int, 2) := by decide +kernel
theorem dX11_init_751 : decode cX11_init 751 = .ok (.putfield 20, 3) := by decide +kernel
theorem dX11_init_754 : decode cX11_init 754 = .ok (.aload_n 0, 1) := by decide +kernel
theorem dX11_init_755 : decode cX11_init 755 = .ok (.bipush 60, 2) := by decide +kernel
theorem dX11_init_757 : decode cX11_init 757 = .ok (.newarray .int, 2) := by decide +kernel
theorem dX11_init_759 : decode cX11_init 759 = .ok (.putfield 23, 3) := by decide +kernel
theorem dX11_init_762 : decode cX11_init 762 = .ok (.aload_n 0, 1) := by decide +kernel
theorem dX11_init_763 : decode cX11_init 763 = .ok (.bipush 18, 2) := by decide +kernel
theorem dX11_init_765 : decode cX11_init 765 = .ok (.newarray .int, 2) := by decide +kernel
theorem dX11_init_767 : decode cX11_init 767 = .ok (.putfield 26, 3) := by decide +kernel
theorem dX11_init_770 : decode cX11_init 770 = .ok (.aload_n 0, 1) := by decide +kernel
theorem dX11_init_771 : decode cX11_init 771 = .ok (.bipush 24, 2) := by decide +kernel
theorem dX11_init_773 : decode cX11_init 773 = .ok (.newarray .int, 2) := by decide +kernel
theorem dX11_init_775 : decode cX11_init 775 = .ok (.putfield 29, 3) := by decide +kernel
theorem dX11_init_778 : decode cX11_init 778 = .ok (.aload_n 0, 1) := by decide +kernel
theorem dX11_init_779 : decode cX11_init 779 = .ok (.bipush 24, 2) := by decide +kernel
theorem dX11_init_781 : decode cX11_init 781 = .ok (.newarray .int, 2) := by decide +kernel
theorem dX11_init_783 : decode cX11_init 783 = .ok (.putfield 32, 3) := by decide +kernel
theorem dX11_init_786 : decode cX11_init 786 = .ok (.aload_n 0, 1) := by decide +kernel
theorem dX11_init_787 : decode cX11_init 787 = .ok (.bipush 120, 2) := by decide +kernel
theorem dX11_init_789 : decode cX11_init 789 = .ok (.newarray .int, 2) := by decide +kernel
theorem dX11_init_791 : decode cX11_init 791 = .ok (.putfield 35, 3) := by decide +kernel
theorem dX11_init_794 : decode cX11_init 794 = .ok (.aload_n 0, 1) := by decide +kernel
theorem dX11_init_795 : decode cX11_init 795 = .ok (.bipush 8, 2) := by decide +kernel
theorem dX11_init_797 : decode cX11_init 797 = .ok (.newarray .int, 2) := by decide +kernel
theorem dX11_init_799 : decode cX11_init 799 = .ok (.putfield 38, 3) := by decide +kernel
theorem dX11_init_802 : decode cX11_init 802 = .ok (.aload_n 0, 1) := by decide +kernel
theorem dX11_init_803 : decode cX11_init 803 = .ok (.bipush 8, 2) := by decide +kernel
theorem dX11_init_805 : decode cX11_init 805 = .ok (.newarray .int, 2) := by decide +kernel
theorem dX11_init_807 : decode cX11_init 807 = .ok (.putfield 41, 3) := by decide +kernel
theorem dX11_init_810 : decode cX11_init 810 = .ok (.aload_n 0, 1) := by decide +kernel
theorem dX11_init_811 : decode cX11_init 811 = .ok (.bipush 14, 2) := by decide +kernel
theorem dX11_init_813 : decode cX11_init 813 = .ok (.newarray .int, 2) := by decide +kernel
theorem dX11_init_815 : decode cX11_init 815 = .ok (.putfield 44, 3) := by decide +kernel
theorem dX11_init_818 : decode cX11_init 818 = .ok (.aload_n 0, 1) := by decide +kernel
theorem dX11_init_819 : decode cX11_init 819 = .ok (.bipush 14, 2) := by decide +kernel
theorem dX11_init_821 : decode cX11_init 821 = .ok (.newarray .int, 2) := by decide +kernel
theorem dX11_init_823 : decode cX11_init 823 = .ok (.putfield 47, 3) := by decide +kernel
theorem dX11_init_826 : decode cX11_init 826 = .ok (.aload_n 0, 1) := by decide +kernel
theorem dX11_init_827 : decode cX11_init 827 = .ok (.bipush 6, 2) := by decide +kernel
theorem dX11_init_829 : decode cX11_init 829 = .ok (.newarray .boolean, 2) := by decide +kernel
theorem dX11_init_831 : decode cX11_init 831 = .ok (.putfield 50, 3) := by decide +kernel
theorem dX11_init_834 : decode cX11_init 834 = .ok (.aload_n 0, 1) := by decide +kernel
theorem dX11_init_835 : decode cX11_init 835 = .ok (.sipush 128, 3) := by decide +kernel
theorem dX11_init_838 : decode cX11_init 838 = .ok (.newarray .int, 2) := by decide +kernel
theorem dX11_init_840 : decode cX11_init 840 = .ok (.putfield 54, 3) := by decide +kernel
theorem dX11_init_843 : decode cX11_init 843 = .ok (.aload_n 0, 1) := by decide +kernel
theorem dX11_init_844 : decode cX11_init 844 = .ok (.sipush 128, 3) := by decide +kernel
theorem dX11_init_847 : decode cX11_init 847 = .ok (.newarray .int, 2) := by decide +kernel
theorem dX11_init_849 : decode cX11_init 849 = .ok (.putfield 57, 3) := by decide +kernel
theorem dX11_init_852 : decode cX11_init 852 = .ok (.aload_n 0, 1) := by decide +kernel
theorem dX11_init_853 : decode cX11_init 853 = .ok (.sipush 128, 3) := by decide +kernel
theorem dX11_init_856 : decode cX11_init 856 = .ok (.newarray .int, 2) := by decide +kernel
theorem dX11_init_858 : decode cX11_init 858 = .ok (.putfield 60, 3) := by decide +kernel
theorem dX11_init_861 : decode cX11_init 861 = .ok (.aload_n 0, 1) := by decide +kernel
theorem dX11_init_862 : decode cX11_init 862 = .ok (.bipush 96, 2) := by decide +kernel
theorem dX11_init_864 : decode cX11_init 864 = .ok (.newarray .int, 2) := by decide +kernel
theorem dX11_init_866 : decode cX11_init 866 = .ok (.putfield 63, 3) := by decide +kernel
theorem dX11_init_869 : decode cX11_init 869 = .ok (.aload_n 0, 1) := by decide +kernel
theorem dX11_init_870 : decode cX11_init 870 = .ok (.bipush 96, 2) := by decide +kernel
theorem dX11_init_872 : decode cX11_init 872 = .ok (.newarray .int, 2) := by decide +kernel
theorem dX11_init_874 : decode cX11_init 874 = .ok (.putfield 66, 3) := by decide +kernel
theorem dX11_init_877 : decode cX11_init 877 = .ok (.aload_n 0, 1) := by decide +kernel
theorem dX11_init_878 : decode cX11_init 878 = .ok (.sipush 366, 3) := by decide +kernel
theorem dX11_init_881 : decode cX11_init 881 = .ok (.newarray .int, 2) := by decide +kernel
theorem dX11_init_883 : decode cX11_init 883 = .ok (.putfield 69, 3) := by decide +kernel
theorem dX11_init_886 : decode cX11_init 886 = .ok (.aload_n 0, 1) := by decide +kernel
theorem dX11_init_887 : decode cX11_init 887 = .ok (.sipush 366, 3) := by decide +kernel
theorem dX11_init_890 : decode cX11_init 890 = .ok (.newarray .int, 2) := by decide +kernel
theorem dX11_init_892 : decode cX11_init 892 = .ok (.putfield 72, 3) := by decide +kernel
theorem dX11_init_895 : decode cX11_init 895 = .ok (.aload_n 0, 1) := by decide +kernel
theorem dX11_init_896 : decode cX11_init 896 = .ok (.iconst 5, 1) := by decide +kernel
theorem dX11_init_897 : decode cX11_init 897 = .ok (.newarray .int, 2) := by decide +kernel
theorem dX11_init_899 : decode cX11_init 899 = .ok (.putfield 75, 3) := by decide +kernel
theorem dX11_init_902 : decode cX11_init 902 = .ok (.aload_n 0, 1) := by decide +kernel
theorem dX11_init_903 : decode cX11_init 903 = .ok (.bipush 15, 2) := by decide +kernel
theorem dX11_init_905 : decode cX11_init 905 = .ok (.newarray .int, 2) := by decide +kernel
theorem dX11_init_907 : decode cX11_init 907 = .ok (.putfield 78, 3) := by decide +kernel
theorem dX11_init_910 : decode cX11_init 910 = .ok (.aload_n 0, 1) := by decide +kernel
theorem dX11_init_911 : decode cX11_init 911 = .ok (.iconst 5, 1) := by decide +kernel
theorem dX11_init_912 : decode cX11_init 912 = .ok (.newarray .int, 2) := by decide +kernel
theorem dX11_init_914 : decode cX11_init 914 = .ok (.putfield 81, 3) := by decide +kernel
theorem dX11_init_917 : decode cX11_init 917 = .ok (.aload_n 0, 1) := by decide +kernel
theorem dX11_init_918 : decode cX11_init 918 = .ok (.bipush 8, 2) := by decide +kernel
theorem dX11_init_920 : decode cX11_init 920 = .ok (.newarray .long, 2) := by decide +kernel
theorem dX11_init_922 : decode cX11_init 922 = .ok (.putfield 84, 3) := by decide +kernel
theorem dX11_init_925 : decode cX11_init 925 = .ok (.aload_n 0, 1) := by decide +kernel
theorem dX11_init_926 : decode cX11_init 926 = .ok (.bipush 64, 2) := by decide +kernel
theorem dX11_init_928 : decode cX11_init 928 = .ok (.newarray .long, 2) := by decide +kernel
theorem dX11_init_930 : decode cX11_init 930 = .ok (.putfield 88, 3) := by decide +kernel
theorem dX11_init_933 : decode cX11_init 933 = .ok (.aload_n 0, 1) := by decide +kernel
theorem dX11_init_934 : decode cX11_init 934 = .ok (.sipush 7320, 3) := by decide +kernel
theorem dX11_init_937 : decode cX11_init 937 = .ok (.newarray .int, 2) := by decide +kernel
theorem dX11_init_939 : decode cX11_init 939 = .ok (.putfield 91, 3) := by decide +kernel
theorem dX11_init_942 : decode cX11_init 942 = .ok (.aload_n 0, 1) := by decide +kernel
theorem dX11_init_943 : decode cX11_init 943 = .ok (.iconst 5, 1) := by decide +kernel
theorem dX11_init_944 : decode cX11_init 944 = .ok (.newarray .int, 2) := by decide +kernel
theorem dX11_init_946 : decode cX11_init 946 = .ok (.putfield 94, 3) := by decide +kernel
theorem dX11_init_949 : decode cX11_init 949 = .ok (.aload_n 0, 1) := by decide +kernel
theorem dX11_init_950 : decode cX11_init 950 = .ok (.iconst 5, 1) := by decide +kernel
theorem dX11_init_951 : decode cX11_init 951 = .ok (.newarray .int, 2) := by decide +kernel
theorem dX11_init_953 : decode cX11_init 953 = .ok (.putfield 97, 3) := by decide +kernel
theorem dX11_init_956 : decode cX11_init 956 = .ok (.aload_n 0, 1) := by decide +kernel
theorem dX11_init_957 : decode cX11_init 957 = .ok (.iconst (-1), 1) := by decide +kernel
theorem dX11_init_958 : decode cX11_init 958 = .ok (.putfield 100, 3) := by decide +kernel
theorem dX11_init_961 : decode cX11_init 961 = .ok (.aload_n 0, 1) := by decide +kernel
theorem dX11_init_962 : decode cX11_init 962 = .ok (.bipush 40, 2) := by decide +kernel
theorem dX11_init_964 : decode cX11_init 964 = .ok (.newarray .int, 2) := by decide +kernel
theorem dX11_init_966 : decode cX11_init 966 = .ok (.putfield 103, 3) := by decide +kernel
theorem dX11_init_969 : decode cX11_init 969 = .ok (.aload_n 0, 1) := by decide +kernel
theorem dX11_init_970 : decode cX11_init 970 = .ok (.bipush 40, 2) := by decide +kernel
theorem dX11_init_972 : decode cX11_init 972 = .ok (.newarray .int, 2) := by decide +kernel
theorem dX11_init_974 : decode cX11_init 974 = .ok (.putfield 106, 3) := by decide +kernel
theorem dX11_init_977 : decode cX11_init 977 = .ok (.aload_n 0, 1) := by decide +kernel
theorem dX11_init_978 : decode cX11_init 978 = .ok (.bipush 40, 2) := by decide +kernel
theorem dX11_init_980 : decode cX11_init 980 = .ok (.newarray .int, 2) := by decide +kernel
theorem dX11_init_982 : decode cX11_init 982 = .ok (.putfield 109, 3) := by decide +kernel
theorem dX11_init_985 : decode cX11_init 985 = .ok (.aload_n 0, 1) := by decide +kernel
theorem dX11_init_986 : decode cX11_init 986 = .ok (.bipush 40, 2) := by decide +kernel
theorem dX11_init_988 : decode cX11_init 988 = .ok (.newarray .int, 2) := by decide +kernel
theorem dX11_init_990 : decode cX11_init 990 = .ok (.putfield 112, 3) := by decide +kernel
theorem dX11_init_993 : decode cX11_init 993 = .ok (.aload_n 0, 1) := by decide +kernel
theorem dX11_init_994 : decode cX11_init 994 = .ok (.bipush 40, 2) := by decide +kernel
theorem dX11_init_996 : decode cX11_init 996 = .ok (.newarray .boolean, 2) := by decide +kernel
theorem dX11_init_998 : decode cX11_init 998 = .ok (.putfield 115, 3) := by decide +kernel
theorem dX11_init_1001 : decode cX11_init 1001 = .ok (.aload_n 0, 1) := by decide +kernel
theorem dX11_init_1002 : decode cX11_init 1002 = .ok (.sipush 366, 3) := by decide +kernel
theorem dX11_init_1005 : decode cX11_init 1005 = .ok (.newarray .int, 2) := by decide +kernel
theorem dX11_init_1007 : decode cX11_init 1007 = .ok (.putfield 118, 3) := by decide +kernel
theorem dX11_init_1010 : decode cX11_init 1010 = .ok (.aload_n 0, 1) := by decide +kernel
theorem dX11_init_1011 : decode cX11_init 1011 = .ok (.invokevirtual 121, 3) := by decide +kernel
theorem dX11_init_1014 : decode cX11_init 1014 = .ok (.aload_n 0, 1) := by decide +kernel
theorem dX11_init_1015 : decode cX11_init 1015 = .ok (.invokevirtual 124, 3) := by decide +kernel
theorem dX11_init_1018 : decode cX11_init 1018 = .ok (.return_, 1) := by decide +kernel
