theorem dL_law__426 : decode cL_law_ 426 = .ok (.aload_n 2, 1) := by decide +kernel
theorem dL_law__427 : decode cL_law_ 427 = .ok (.invokevirtual 116, 3) := by decide +kernel
theorem dL_law__430 : decode cL_law_ 430 = .ok (.iload 5, 2) := by decide +kernel
theorem dL_law__432 : decode cL_law_ 432 = .ok (.if_icmp .eq 5, 3) := by decide +kernel
theorem dL_law__435 : decode cL_law_ 435 = .ok (.iconst 0, 1) := by decide +kernel
theorem dL_law__436 : decode cL_law_ 436 = .ok (.ireturn, 1) := by decide +kernel
theorem dL_law__437 : decode cL_law_ 437 = .ok (.iload 5, 2) := by decide +kernel
theorem dL_law__439 : decode cL_law_ 439 = .ok (.ifCond .ne 15, 3) := by decide +kernel
theorem dL_law__442 : decode cL_law_ 442 = .ok (.aload_n 3, 1) := by decide +kernel
theorem dL_law__443 : decode cL_law_ 443 = .ok (.iconst 0, 1) := by decide +kernel
theorem dL_law__444 : decode cL_law_ 444 = .ok (.laload, 1) := by decide +kernel
theorem dL_law__445 : decode cL_law_ 445 = .ok (.iload 6, 2) := by decide +kernel
theorem dL_law__447 : decode cL_law_ 447 = .ok (.i2l, 1) := by decide +kernel
theorem dL_law__448 : decode cL_law_ 448 = .ok (.lcmp, 1) := by decide +kernel
theorem dL_law__449 : decode cL_law_ 449 = .ok (.ifCond .eq 5, 3) := by decide +kernel
theorem dL_law__452 : decode cL_law_ 452 = .ok (.iconst 0, 1) := by decide +kernel
theorem dL_law__453 : decode cL_law_ 453 = .ok (.ireturn, 1) := by decide +kernel
theorem dL_law__454 : decode cL_law_ 454 = .ok (.goto 1793, 3) := by decide +kernel
theorem dL_law__457 : decode cL_law_ 457 = .ok (.aload_n 1, 1) := by decide +kernel
theorem dL_law__458 : decode cL_law_ 458 = .ok (.aload_n 0, 1) := by decide +kernel
theorem dL_law__459 : decode cL_law_ 459 = .ok (.iload 4, 2) := by decide +kernel
theorem dL_law__461 : decode cL_law_ 461 = .ok (.iconst 1, 1) := by decide +kernel
theorem dL_law__462 : decode cL_law_ 462 = .ok (.iadd, 1) := by decide +kernel
theorem dL_law__463 : decode cL_law_ 463 = .ok (.iaload, 1) := by decide +kernel
theorem dL_law__464 : decode cL_law_ 464 = .ok (.aload_n 3, 1) := by decide +kernel
theorem dL_law__465 : decode cL_law_ 465 = .ok (.invokestatic 126, 3) := by decide +kernel
theorem dL_law__468 : decode cL_law_ 468 = .ok (.istore 5, 2) := by decide +kernel
theorem dL_law__470 : decode cL_law_ 470 = .ok (.aload_n 2, 1) := by decide +kernel
theorem dL_law__471 : decode cL_law_ 471 = .ok (.aload_n 0, 1) := by decide +kernel
theorem dL_law__472 : decode cL_law_ 472 = .ok (.iload 4, 2) := by decide +kernel
theorem dL_law__474 : decode cL_law_ 474 = .ok (.iconst 1, 1) := by decide +kernel
theorem dL_law__475 : decode cL_law_ 475 = .ok (.iadd, 1) := by decide +kernel
theorem dL_law__476 : decode cL_law_ 476 = .ok (.iaload, 1) := by decide +kernel
theorem dL_law__477 : decode cL_law_ 477 = .ok (.invokevirtual 128, 3) := by decide +kernel
theorem dL_law__480 : decode cL_law_ 480 = .ok (.istore 6, 2) := by decide +kernel
theorem dL_law__482 : decode cL_law_ 482 = .ok (.aload_n 2, 1) := by decide +kernel
theorem dL_law__483 : decode cL_law_ 483 = .ok (.invokevirtual 116, 3) := by decide +kernel
theorem dL_law__486 : decode cL_law_ 486 = .ok (.iload 5, 2) := by decide +kernel
theorem dL_law__488 : decode cL_law_ 488 = .ok (.if_icmp .eq 5, 3) := by decide +kernel
theorem dL_law__491 : decode cL_law_ 491 = .ok (.iconst 0, 1) := by decide +kernel
theorem dL_law__492 : decode cL_law_ 492 = .ok (.ireturn, 1) := by decide +kernel
theorem dL_law__493 : decode cL_law_ 493 = .ok (.iload 5, 2) := by decide +kernel
theorem dL_law__495 : decode cL_law_ 495 = .ok (.ifCond .ne 15, 3) := by decide +kernel
theorem dL_law__498 : decode cL_law_ 498 = .ok (.aload_n 3, 1) := by decide +kernel
theorem dL_law__499 : decode cL_law_ 499 = .ok (.iconst 0, 1) := by decide +kernel
theorem dL_law__500 : decode cL_law_ 500 = .ok (.laload, 1) := by decide +kernel
theorem dL_law__501 : decode cL_law_ 501 = .ok (.iload 6, 2) := by decide +kernel
theorem dL_law__503 : decode cL_law_ 503 = .ok (.i2l, 1) := by decide +kernel
theorem dL_law__504 : decode cL_law_ 504 = .ok (.lcmp, 1) := by decide +kernel
theorem dL_law__505 : decode cL_law_ 505 = .ok (.ifCond .eq 5, 3) := by decide +kernel
theorem dL_law__508 : decode cL_law_ 508 = .ok (.iconst 0, 1) := by decide +kernel
theorem dL_law__509 : decode cL_law_ 509 = .ok (.ireturn, 1) := by decide +kernel
theorem dL_law__510 : decode cL_law_ 510 = .ok (.goto 1737, 3) := by decide +kernel
theorem dL_law__513 : decode cL_law_ 513 = .ok (.aload_n 1, 1) := by decide +kernel
theorem dL_law__514 : decode cL_law_ 514 = .ok (.invokevirtual 129, 3) := by decide +kernel
theorem dL_law__517 : decode cL_law_ 517 = .ok (.aload_n 2, 1) := by decide +kernel
theorem dL_law__518 : decode cL_law_ 518 = .ok (.invokevirtual 132, 3) := by decide +kernel
theorem dL_law__521 : decode cL_law_ 521 = .ok (.if_icmp .eq 1726, 3) := by decide +kernel
theorem dL_law__524 : decode cL_law_ 524 = .ok (.iconst 0, 1) := by decide +kernel
theorem dL_law__525 : decode cL_law_ 525 = .ok (.ireturn, 1) := by decide +kernel
theorem dL_law__526 : decode cL_law_ 526 = .ok (.aload_n 1, 1) := by decide +kernel
theorem dL_law__527 : decode cL_law_ 527 = .ok (.invokevirtual 133, 3) := by decide +kernel
theorem dL_law__530 : decode cL_law_ 530 = .ok (.aload_n 2, 1) := by decide +kernel
theorem dL_law__531 : decode cL_law_ 531 = .ok (.invokevirtual 136, 3) := by decide +kernel
theorem dL_law__534 : decode cL_law_ 534 = .ok (.if_icmp .eq 1713, 3) := by decide +kernel
theorem dL_law__537 : decode cL_law_ 537 = .ok (.iconst 0, 1) := by decide +kernel
theorem dL_law__538 : decode cL_law_ 538 = .ok (.ireturn, 1) := by decide +kernel
theorem dL_law__539 : decode cL_law_ 539 = .ok (.aload_n 1, 1) := by decide +kernel
theorem dL_law__540 : decode cL_law_ 540 = .ok (.aload_n 0, 1) := by decide +kernel
theorem dL_law__541 : decode cL_law_ 541 = .ok (.iload 4, 2) := by decide +kernel
theorem dL_law__543 : decode cL_law_ 543 = .ok (.iconst 1, 1) := by decide +kernel
theorem dL_law__544 : decode cL_law_ 544 = .ok (.iadd, 1) := by decide +kernel
theorem dL_law__545 : decode cL_law_ 545 = .ok (.iaload, 1) := by decide +kernel
theorem dL_law__546 : decode cL_law_ 546 = .ok (.aload_n 3, 1) := by decide +kernel
theorem dL_law__547 : decode cL_law_ 547 = .ok (.invokestatic 137, 3) := by decide +kernel
theorem dL_law__550 : decode cL_law_ 550 = .ok (.istore 5, 2) := by decide +kernel
theorem dL_law__552 : decode cL_law_ 552 = .ok (.aload_n 2, 1) := by decide +kernel
theorem dL_law__553 : decode cL_law_ 553 = .ok (.aload_n 0, 1) := by decide +kernel
theorem dL_law__554 : decode cL_law_ 554 = .ok (.iload 4, 2) := by decide +kernel
theorem dL_law__556 : decode cL_law_ 556 = .ok (.iconst 1, 1) := by decide +kernel
theorem dL_law__557 : decode cL_law_ 557 = .ok (.iadd, 1) := by decide +kernel
theorem dL_law__558 : decode cL_law_ 558 = .ok (.iaload, 1) := by decide +kernel
theorem dL_law__559 : decode cL_law_ 559 = .ok (.invokevirtual 139, 3) := by decide +kernel
theorem dL_law__562 : decode cL_law_ 562 = .ok (.istore 6, 2) := by decide +kernel
theorem dL_law__564 : decode cL_law_ 564 = .ok (.aload_n 2, 1) := by decide +kernel
theorem dL_law__565 : decode cL_law_ 565 = .ok (.invokevirtual 116, 3) := by decide +kernel
theorem dL_law__568 : decode cL_law_ 568 = .ok (.iload 5, 2) := by decide +kernel
theorem dL_law__570 : decode cL_law_ 570 = .ok (.if_icmp .eq 5, 3) := by decide +kernel
theorem dL_law__573 : decode cL_law_ 573 = .ok (.iconst 0, 1) := by decide +kernel
theorem dL_law__574 : decode cL_law_ 574 = .ok (.ireturn, 1) := by decide +kernel
theorem dL_law__575 : decode cL_law_ 575 = .ok (.iload 5, 2) := by decide +kernel
theorem dL_law__577 : decode cL_law_ 577 = .ok (.ifCond .ne 15, 3) := by decide +kernel
theorem dL_law__580 : decode cL_law_ 580 = .ok (.aload_n 3, 1) := by decide +kernel
theorem dL_law__581 : decode cL_law_ 581 = .ok (.iconst 0, 1) := by decide +kernel
theorem dL_law__582 : decode cL_law_ 582 = .ok (.laload, 1) := by decide +kernel
theorem dL_law__583 : decode cL_law_ 583 = .ok (.iload 6, 2) := by decide +kernel
theorem dL_law__585 : decode cL_law_ 585 = .ok (.i2l, 1) := by decide +kernel
theorem dL_law__586 : decode cL_law_ 586 = .ok (.lcmp, 1) := by decide +kernel
theorem dL_law__587 : decode cL_law_ 587 = .ok (.ifCond .eq 5, 3) := by decide +kernel
theorem dL_law__590 : decode cL_law_ 590 = .ok (.iconst 0, 1) := by decide +kernel
theorem dL_law__591 : decode cL_law_ 591 = .ok (.ireturn, 1) := by decide +kernel
theorem dL_law__592 : decode cL_law_ 592 = .ok (.goto 1655, 3) := by decide +kernel
theorem dL_law__595 : decode cL_law_ 595 = .ok (.aload_n 1, 1) := by decide +kernel
theorem dL_law__596 : decode cL_law_ 596 = .ok (.aload_n 0, 1) := by decide +kernel
theorem dL_law__597 : decode cL_law_ 597 = .ok (.iload 4, 2) := by decide +kernel
theorem dL_law__599 : decode cL_law_ 599 = .ok (.iconst 1, 1) := by decide +kernel
theorem dL_law__600 : decode cL_law_ 600 = .ok (.iadd, 1) := by decide +kernel
theorem dL_law__601 : decode cL_law_ 601 = .ok (.iaload, 1) := by decide +kernel
theorem dL_law__602 : decode cL_law_ 602 = .ok (.aload_n 0, 1) := by decide +kernel
theorem dL_law__603 : decode cL_law_ 603 = .ok (.iload 4, 2) := by decide +kernel
theorem dL_law__605 : decode cL_law_ 605 = .ok (.iconst 2, 1) := by decide +kernel
theorem dL_law__606 : decode cL_law_ 606 = .ok (.iadd, 1) := by decide +kernel
theorem dL_law__607 : decode cL_law_ 607 = .ok (.iaload, 1) := by decide +kernel
theorem dL_law__608 : decode cL_law_ 608 = .ok (.aload_n 3, 1) := by decide +kernel
theorem dL_law__609 : decode cL_law_ 609 = .ok (.invokestatic 140, 3) := by decide +kernel
theorem dL_law__612 : decode cL_law_ 612 = .ok (.istore 5, 2) := by decide +kernel
theorem dL_law__614 : decode cL_law_ 614 = .ok (.aload_n 2, 1) := by decide +kernel
theorem dL_law__615 : decode cL_law_ 615 = .ok (.aload_n 0, 1) := by decide +kernel
theorem dL_law__616 : decode cL_law_ 616 = .ok (.iload 4, 2) := by decide +kernel
theorem dL_law__618 : decode cL_law_ 618 = .ok (.iconst 1, 1) := by decide +kernel
theorem dL_law__619 : decode cL_law_ 619 = .ok (.iadd, 1) := by decide +kernel
theorem dL_law__620 : decode cL_law_ 620 = .ok (.iaload, 1) := by decide +kernel
theorem dL_law__621 : decode cL_law_ 621 = .ok (.aload_n 0, 1) := by decide +kernel
theorem dL_law__622 : decode cL_law_ 622 = .ok (.iload 4, 2) := by decide +kernel
theorem dL_law__624 : decode cL_law_ 624 = .ok (.iconst 2, 1) := by decide +kernel
theorem dL_law__625 : decode cL_law_ 625 = .ok (.iadd, 1) := by decide +kernel
theorem dL_law__626 : decode cL_law_ 626 = .ok (.iaload, 1) := by decide +kernel
theorem dL_law__627 : decode cL_law_ 627 = .ok (.invokevirtual 143, 3) := by decide +kernel
theorem dL_law__630 : decode cL_law_ 630 = .ok (.istore 6, 2) := by decide +kernel
theorem dL_law__632 : decode cL_law_ 632 = .ok (.aload_n 2, 1) := by decide +kernel
theorem dL_law__633 : decode cL_law_ 633 = .ok (.invokevirtual 116, 3) := by decide +kernel
theorem dL_law__636 : decode cL_law_ 636 = .ok (.iload 5, 2) := by decide +kernel
theorem dL_law__638 : decode cL_law_ 638 = .ok (.if_icmp .eq 5, 3) := by decide +kernel
theorem dL_law__641 : decode cL_law_ 641 = .ok (.iconst 0, 1) := by decide +kernel
theorem dL_law__642 : decode cL_law_ 642 = .ok (.ireturn, 1) := by decide +kernel
theorem dL_law__643 : decode cL_law_ 643 = .ok (.iload 5, 2) := by decide +kernel
theorem dL_law__645 : decode cL_law_ 645 = .ok (.ifCond .ne 15, 3) := by decide +kernel
theorem dL_law__648 : decode cL_law_ 648 = .ok (.aload_n 3, 1) := by decide +kernel
theorem dL_law__649 : decode cL_law_ 649 = .ok (.iconst 0, 1) := by decide +kernel
theorem dL_law__650 : decode cL_law_ 650 = .ok (.laload, 1) := by decide +kernel
theorem dL_law__651 : decode cL_law_ 651 = .ok (.iload 6, 2) := by decide +kernel
theorem dL_law__653 : decode cL_law_ 653 = .ok (.i2l, 1) := by decide +kernel
theorem dL_law__654 : decode cL_law_ 654 = .ok (.lcmp, 1) := by decide +kernel
theorem dL_law__655 : decode cL_law_ 655 = .ok (.ifCond .eq 5, 3) := by decide +kernel
theorem dL_law__658 : decode cL_law_ 658 = .ok (.iconst 0, 1) := by decide +kernel
theorem dL_law__659 : decode cL_law_ 659 = .ok (.ireturn, 1) := by decide +kernel
theorem dL_law__660 : decode cL_law_ 660 = .ok (.goto 1587, 3) := by decide +kernel
theorem dL_law__663 : decode cL_law_ 663 = .ok (.aload_n 1, 1) := by decide +kernel
theorem dL_law__664 : decode cL_law_ 664 = .ok (.aload_n 0, 1) := by decide +kernel
theorem dL_law__665 : decode cL_law_ 665 = .ok (.iload 4, 2) := by decide +kernel
theorem dL_law__667 : decode cL_law_ 667 = .ok (.iconst 1, 1) := by decide +kernel
theorem dL_law__668 : decode cL_law_ 668 = .ok (.iadd, 1) := by decide +kernel
theorem dL_law__669 : decode cL_law_ 669 = .ok (.iaload, 1) := by decide +kernel
theorem dL_law__670 : decode cL_law_ 670 = .ok (.aload_n 0, 1) := by decide +kernel
theorem dL_law__671 : decode cL_law_ 671 = .ok (.iload 4, 2) := by decide +kernel
theorem dL_law__673 : decode cL_law_ 673 = .ok (.iconst 2, 1) := by decide +kernel
theorem dL_law__674 : decode cL_law_ 674 = .ok (.iadd, 1) := by decide +kernel
theorem dL_law__675 : decode cL_law_ 675 = .ok (.iaload, 1) := by decide +kernel
theorem dL_law__676 : decode cL_law_ 676 = .ok (.aload_n 3, 1) := by decide +kernel
theorem dL_law__677 : decode cL_law_ 677 = .ok (.invokestatic 144, 3) := by decide +kernel
theorem dL_law__680 : decode cL_law_ 680 = .ok (.istore 5, 2) := by decide +kernel
theorem dL_law__682 : decode cL_law_ 682 = .ok (.aload_n 2, 1) := by decide +kernel
theorem dL_law__683 : decode cL_law_ 683 = .ok (.aload_n 0, 1) := by decide +kernel
theorem dL_law__684 : decode cL_law_ 684 = .ok (.iload 4, 2) := by decide +kernel
theorem dL_law__686 : decode cL_law_ 686 = .ok (.iconst 1, 1) := by decide +kernel
theorem dL_law__687 : decode cL_law_ 687 = .ok (.iadd, 1) := by decide +kernel
theorem dL_law__688 : decode cL_law_ 688 = .ok (.iaload, 1) := by decide +kernel
theorem dL_law__689 : decode cL_law_ 689 = .ok (.aload_n 0, 1) := by decide +kernel
theorem dL_law__690 : decode cL_law_ 690 = .ok (.iload 4, 2) := by decide +kernel
