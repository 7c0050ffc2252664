set_option maxRecDepth 20000 in
theorem mp0 : MrP r0 := ⟨gm 844 rfl rfl, (gm 88 (by decide +kernel) rfl), Or.inr (gm 843 (by decide +kernel) rfl), (by decide +kernel), (by decide +kernel), (by decide +kernel), (by decide +kernel)⟩
set_option maxRecDepth 20000 in
theorem mp1 : MrP r1 := ⟨gm 530 rfl rfl, (gm 78 (by decide +kernel) rfl), Or.inr (gm 529 (by decide +kernel) rfl), (by decide +kernel), (by decide +kernel), (by decide +kernel), (by decide +kernel)⟩
set_option maxRecDepth 20000 in
theorem mp2 : MrP r2 := ⟨gm 263 rfl rfl, (gm 78 (by decide +kernel) rfl), Or.inr (gm 262 (by decide +kernel) rfl), (by decide +kernel), (by decide +kernel), (by decide +kernel), (by decide +kernel)⟩
set_option maxRecDepth 20000 in
theorem mp3 : MrP r3 := ⟨gm 436 rfl rfl, (gm 78 (by decide +kernel) rfl), Or.inr (gm 435 (by decide +kernel) rfl), (by decide +kernel), (by decide +kernel), (by decide +kernel), (by decide +kernel)⟩
set_option maxRecDepth 20000 in
theorem mp4 : MrP r4 := ⟨gm 432 rfl rfl, (gm 82 (by decide +kernel) rfl), Or.inl (gm 431 (by decide +kernel) rfl), (by decide +kernel), (by decide +kernel), (by decide +kernel), (by decide +kernel)⟩
set_option maxRecDepth 20000 in
theorem mp5 : MrP r5 := ⟨gm 489 rfl rfl, (gm 82 (by decide +kernel) rfl), Or.inl (gm 487 (by decide +kernel) rfl), (by decide +kernel), (by decide +kernel), (by decide +kernel), (by decide +kernel)⟩
set_option maxRecDepth 20000 in
theorem mp6 : MrP r6 := ⟨gm 509 rfl rfl, (gm 82 (by decide +kernel) rfl), Or.inl (gm 507 (by decide +kernel) rfl), (by decide +kernel), (by decide +kernel), (by decide +kernel), (by decide +kernel)⟩
set_option maxRecDepth 20000 in
theorem mp7 : MrP r7 := ⟨gm 485 rfl rfl, (gm 82 (by decide +kernel) rfl), Or.inl (gm 483 (by decide +kernel) rfl), (by decide +kernel), (by decide +kernel), (by decide +kernel), (by decide +kernel)⟩
set_option maxRecDepth 20000 in
theorem mp8 : MrP r8 := ⟨gm 655 rfl rfl, (gm 87 (by decide +kernel) rfl), Or.inl (gm 654 (by decide +kernel) rfl), (by decide +kernel), (by decide +kernel), (by decide +kernel), (by decide +kernel)⟩
set_option maxRecDepth 20000 in
theorem mp9 : MrP r9 := ⟨gm 734 rfl rfl, (gm 87 (by decide +kernel) rfl), Or.inl (gm 733 (by decide +kernel) rfl), (by decide +kernel), (by decide +kernel), (by decide +kernel), (by decide +kernel)⟩
set_option maxRecDepth 20000 in
theorem mp10 : MrP r10 := ⟨gm 756 rfl rfl, (gm 87 (by decide +kernel) rfl), Or.inl (gm 755 (by decide +kernel) rfl), (by decide +kernel), (by decide +kernel), (by decide +kernel), (by decide +kernel)⟩
set_option maxRecDepth 20000 in
theorem mp11 : MrP r11 := ⟨gm 945 rfl rfl, (gm 87 (by decide +kernel) rfl), Or.inl (gm 944 (by decide +kernel) rfl), (by decide +kernel), (by decide +kernel), (by decide +kernel), (by decide +kernel)⟩
set_option maxRecDepth 20000 in
theorem mp12 : MrP r12 := ⟨gm 975 rfl rfl, (gm 87 (by decide +kernel) rfl), Or.inl (gm 974 (by decide +kernel) rfl), (by decide +kernel), (by decide +kernel), (by decide +kernel), (by decide +kernel)⟩
set_option maxRecDepth 20000 in
theorem mp13 : MrP r13 := ⟨gm 658 rfl rfl, (gm 86 (by decide +kernel) rfl), Or.inl (gm 657 (by decide +kernel) rfl), (by decide +kernel), (by decide +kernel), (by decide +kernel), (by decide +kernel)⟩
set_option maxRecDepth 20000 in
theorem mp14 : MrP r14 := ⟨gm 737 rfl rfl, (gm 86 (by decide +kernel) rfl), Or.inl (gm 736 (by decide +kernel) rfl), (by decide +kernel), (by decide +kernel), (by decide +kernel), (by decide +kernel)⟩
set_option maxRecDepth 20000 in
theorem mp15 : MrP r15 := ⟨gm 759 rfl rfl, (gm 86 (by decide +kernel) rfl), Or.inl (gm 758 (by decide +kernel) rfl), (by decide +kernel), (by decide +kernel), (by decide +kernel), (by decide +kernel)⟩
set_option maxRecDepth 20000 in
theorem mp16 : MrP r16 := ⟨gm 952 rfl rfl, (gm 86 (by decide +kernel) rfl), Or.inl (gm 951 (by decide +kernel) rfl), (by decide +kernel), (by decide +kernel), (by decide +kernel), (by decide +kernel)⟩
set_option maxRecDepth 20000 in
theorem mp17 : MrP r17 := ⟨gm 146 rfl rfl, (gm 75 (by decide +kernel) rfl), Or.inl (gm 145 (by decide +kernel) rfl), (by decide +kernel), (by decide +kernel), (by decide +kernel), (by decide +kernel)⟩
set_option maxRecDepth 20000 in
theorem mp18 : MrP r18 := ⟨gm 513 rfl rfl, (gm 75 (by decide +kernel) rfl), Or.inl (gm 511 (by decide +kernel) rfl), (by decide +kernel), (by decide +kernel), (by decide +kernel), (by decide +kernel)⟩
set_option maxRecDepth 20000 in
theorem mp19 : MrP r19 := ⟨gm 546 rfl rfl, (gm 75 (by decide +kernel) rfl), Or.inl (gm 544 (by decide +kernel) rfl), (by decide +kernel), (by decide +kernel), (by decide +kernel), (by decide +kernel)⟩
set_option maxRecDepth 20000 in
theorem mp20 : MrP r20 := ⟨gm 586 rfl rfl, (gm 75 (by decide +kernel) rfl), Or.inl (gm 584 (by decide +kernel) rfl), (by decide +kernel), (by decide +kernel), (by decide +kernel), (by decide +kernel)⟩
set_option maxRecDepth 20000 in
theorem mp21 : MrP r21 := ⟨gm 598 rfl rfl, (gm 75 (by decide +kernel) rfl), Or.inl (gm 596 (by decide +kernel) rfl), (by decide +kernel), (by decide +kernel), (by decide +kernel), (by decide +kernel)⟩
set_option maxRecDepth 20000 in
theorem mp22 : MrP r22 := ⟨gm 610 rfl rfl, (gm 75 (by decide +kernel) rfl), Or.inl (gm 608 (by decide +kernel) rfl), (by decide +kernel), (by decide +kernel), (by decide +kernel), (by decide +kernel)⟩
set_option maxRecDepth 20000 in
theorem mp23 : MrP r23 := ⟨gm 550 rfl rfl, (gm 75 (by decide +kernel) rfl), Or.inl (gm 549 (by decide +kernel) rfl), (by decide +kernel), (by decide +kernel), (by decide +kernel), (by decide +kernel)⟩
set_option maxRecDepth 20000 in
theorem mp24 : MrP r24 := ⟨gm 559 rfl rfl, (gm 75 (by decide +kernel) rfl), Or.inl (gm 558 (by decide +kernel) rfl), (by decide +kernel), (by decide +kernel), (by decide +kernel), (by decide +kernel)⟩
set_option maxRecDepth 20000 in
theorem mp25 : MrP r25 := ⟨gm 590 rfl rfl, (gm 75 (by decide +kernel) rfl), Or.inl (gm 589 (by decide +kernel) rfl), (by decide +kernel), (by decide +kernel), (by decide +kernel), (by decide +kernel)⟩
set_option maxRecDepth 20000 in
theorem mp26 : MrP r26 := ⟨gm 555 rfl rfl, (gm 75 (by decide +kernel) rfl), Or.inl (gm 554 (by decide +kernel) rfl), (by decide +kernel), (by decide +kernel), (by decide +kernel), (by decide +kernel)⟩
set_option maxRecDepth 20000 in
theorem mp27 : MrP r27 := ⟨gm 567 rfl rfl, (gm 75 (by decide +kernel) rfl), Or.inl (gm 566 (by decide +kernel) rfl), (by decide +kernel), (by decide +kernel), (by decide +kernel), (by decide +kernel)⟩
set_option maxRecDepth 20000 in
theorem mp28 : MrP r28 := ⟨gm 563 rfl rfl, (gm 75 (by decide +kernel) rfl), Or.inl (gm 562 (by decide +kernel) rfl), (by decide +kernel), (by decide +kernel), (by decide +kernel), (by decide +kernel)⟩
set_option maxRecDepth 20000 in
theorem mp29 : MrP r29 := ⟨gm 572 rfl rfl, (gm 75 (by decide +kernel) rfl), Or.inl (gm 571 (by decide +kernel) rfl), (by decide +kernel), (by decide +kernel), (by decide +kernel), (by decide +kernel)⟩
set_option maxRecDepth 20000 in
theorem mp30 : MrP r30 := ⟨gm 576 rfl rfl, (gm 75 (by decide +kernel) rfl), Or.inl (gm 575 (by decide +kernel) rfl), (by decide +kernel), (by decide +kernel), (by decide +kernel), (by decide +kernel)⟩
set_option maxRecDepth 20000 in
theorem mp31 : MrP r31 := ⟨gm 581 rfl rfl, (gm 75 (by decide +kernel) rfl), Or.inl (gm 580 (by decide +kernel) rfl), (by decide +kernel), (by decide +kernel), (by decide +kernel), (by decide +kernel)⟩
set_option maxRecDepth 20000 in
theorem mp32 : MrP r32 := ⟨gm 539 rfl rfl, (gm 75 (by decide +kernel) rfl), Or.inl (gm 538 (by decide +kernel) rfl), (by decide +kernel), (by decide +kernel), (by decide +kernel), (by decide +kernel)⟩
set_option maxRecDepth 20000 in
theorem mp33 : MrP r33 := ⟨gm 535 rfl rfl, (gm 75 (by decide +kernel) rfl), Or.inl (gm 534 (by decide +kernel) rfl), (by decide +kernel), (by decide +kernel), (by decide +kernel), (by decide +kernel)⟩
set_option maxRecDepth 20000 in
theorem mp34 : MrP r34 := ⟨gm 525 rfl rfl, (gm 75 (by decide +kernel) rfl), Or.inl (gm 523 (by decide +kernel) rfl), (by decide +kernel), (by decide +kernel), (by decide +kernel), (by decide +kernel)⟩
set_option maxRecDepth 20000 in
theorem mp35 : MrP r35 := ⟨gm 626 rfl rfl, (gm 75 (by decide +kernel) rfl), Or.inl (gm 624 (by decide +kernel) rfl), (by decide +kernel), (by decide +kernel), (by decide +kernel), (by decide +kernel)⟩
set_option maxRecDepth 20000 in
theorem mp36 : MrP r36 := ⟨gm 622 rfl rfl, (gm 75 (by decide +kernel) rfl), Or.inl (gm 620 (by decide +kernel) rfl), (by decide +kernel), (by decide +kernel), (by decide +kernel), (by decide +kernel)⟩
set_option maxRecDepth 20000 in
theorem mp37 : MrP r37 := ⟨gm 618 rfl rfl, (gm 75 (by decide +kernel) rfl), Or.inl (gm 616 (by decide +kernel) rfl), (by decide +kernel), (by decide +kernel), (by decide +kernel), (by decide +kernel)⟩
set_option maxRecDepth 20000 in
theorem mp38 : MrP r38 := ⟨gm 661 rfl rfl, (gm 85 (by decide +kernel) rfl), Or.inl (gm 660 (by decide +kernel) rfl), (by decide +kernel), (by decide +kernel), (by decide +kernel), (by decide +kernel)⟩
set_option maxRecDepth 20000 in
theorem mp39 : MrP r39 := ⟨gm 738 rfl rfl, (gm 85 (by decide +kernel) rfl), Or.inl (gm 729 (by decide +kernel) rfl), (by decide +kernel), (by decide +kernel), (by decide +kernel), (by decide +kernel)⟩
set_option maxRecDepth 20000 in
theorem mp40 : MrP r40 := ⟨gm 761 rfl rfl, (gm 85 (by decide +kernel) rfl), Or.inl (gm 751 (by decide +kernel) rfl), (by decide +kernel), (by decide +kernel), (by decide +kernel), (by decide +kernel)⟩
set_option maxRecDepth 20000 in
theorem mp41 : MrP r41 := ⟨gm 837 rfl rfl, (gm 85 (by decide +kernel) rfl), Or.inl (gm 832 (by decide +kernel) rfl), (by decide +kernel), (by decide +kernel), (by decide +kernel), (by decide +kernel)⟩
set_option maxRecDepth 20000 in
theorem mp42 : MrP r42 := ⟨gm 963 rfl rfl, (gm 85 (by decide +kernel) rfl), Or.inl (gm 940 (by decide +kernel) rfl), (by decide +kernel), (by decide +kernel), (by decide +kernel), (by decide +kernel)⟩
set_option maxRecDepth 20000 in
theorem mp43 : MrP r43 := ⟨gm 960 rfl rfl, (gm 85 (by decide +kernel) rfl), Or.inl (gm 959 (by decide +kernel) rfl), (by decide +kernel), (by decide +kernel), (by decide +kernel), (by decide +kernel)⟩
set_option maxRecDepth 20000 in
theorem mp44 : MrP r44 := ⟨gm 977 rfl rfl, (gm 85 (by decide +kernel) rfl), Or.inl (gm 970 (by decide +kernel) rfl), (by decide +kernel), (by decide +kernel), (by decide +kernel), (by decide +kernel)⟩
set_option maxRecDepth 20000 in
theorem mp45 : MrP r45 := ⟨gm 307 rfl rfl, (gm 80 (by decide +kernel) rfl), Or.inl (gm 306 (by decide +kernel) rfl), (by decide +kernel), (by decide +kernel), (by decide +kernel), (by decide +kernel)⟩
set_option maxRecDepth 20000 in
theorem mp46 : MrP r46 := ⟨gm 369 rfl rfl, (gm 80 (by decide +kernel) rfl), Or.inl (gm 367 (by decide +kernel) rfl), (by decide +kernel), (by decide +kernel), (by decide +kernel), (by decide +kernel)⟩
set_option maxRecDepth 20000 in
theorem mp47 : MrP r47 := ⟨gm 912 rfl rfl, (gm 80 (by decide +kernel) rfl), Or.inl (gm 910 (by decide +kernel) rfl), (by decide +kernel), (by decide +kernel), (by decide +kernel), (by decide +kernel)⟩
set_option maxRecDepth 20000 in
theorem mp48 : MrP r48 := ⟨gm 377 rfl rfl, (gm 80 (by decide +kernel) rfl), Or.inl (gm 375 (by decide +kernel) rfl), (by decide +kernel), (by decide +kernel), (by decide +kernel), (by decide +kernel)⟩
set_option maxRecDepth 20000 in
theorem mp49 : MrP r49 := ⟨gm 925 rfl rfl, (gm 80 (by decide +kernel) rfl), Or.inl (gm 923 (by decide +kernel) rfl), (by decide +kernel), (by decide +kernel), (by decide +kernel), (by decide +kernel)⟩
set_option maxRecDepth 20000 in
theorem mp50 : MrP r50 := ⟨gm 899 rfl rfl, (gm 80 (by decide +kernel) rfl), Or.inl (gm 897 (by decide +kernel) rfl), (by decide +kernel), (by decide +kernel), (by decide +kernel), (by decide +kernel)⟩
set_option maxRecDepth 20000 in
theorem mp51 : MrP r51 := ⟨gm 103 rfl rfl, (gm 74 (by decide +kernel) rfl), Or.inl (gm 102 (by decide +kernel) rfl), (by decide +kernel), (by decide +kernel), (by decide +kernel), (by decide +kernel)⟩
set_option maxRecDepth 20000 in
theorem mp52 : MrP r52 := ⟨gm 381 rfl rfl, (gm 74 (by decide +kernel) rfl), Or.inl (gm 379 (by decide +kernel) rfl), (by decide +kernel), (by decide +kernel), (by decide +kernel), (by decide +kernel)⟩
set_option maxRecDepth 20000 in
theorem mp53 : MrP r53 := ⟨gm 385 rfl rfl, (gm 74 (by decide +kernel) rfl), Or.inl (gm 384 (by decide +kernel) rfl), (by decide +kernel), (by decide +kernel), (by decide +kernel), (by decide +kernel)⟩
set_option maxRecDepth 20000 in
theorem mp54 : MrP r54 := ⟨gm 408 rfl rfl, (gm 74 (by decide +kernel) rfl), Or.inl (gm 407 (by decide +kernel) rfl), (by decide +kernel), (by decide +kernel), (by decide +kernel), (by decide +kernel)⟩
set_option maxRecDepth 20000 in
theorem mp55 : MrP r55 := ⟨gm 412 rfl rfl, (gm 74 (by decide +kernel) rfl), Or.inl (gm 411 (by decide +kernel) rfl), (by decide +kernel), (by decide +kernel), (by decide +kernel), (by decide +kernel)⟩
set_option maxRecDepth 20000 in
theorem mp56 : MrP r56 := ⟨gm 424 rfl rfl, (gm 74 (by decide +kernel) rfl), Or.inl (gm 423 (by decide +kernel) rfl), (by decide +kernel), (by decide +kernel), (by decide +kernel), (by decide +kernel)⟩
set_option maxRecDepth 20000 in
theorem mp57 : MrP r57 := ⟨gm 428 rfl rfl, (gm 74 (by decide +kernel) rfl), Or.inl (gm 427 (by decide +kernel) rfl), (by decide +kernel), (by decide +kernel), (by decide +kernel), (by decide +kernel)⟩
set_option maxRecDepth 20000 in
theorem mp58 : MrP r58 := ⟨gm 393 rfl rfl, (gm 74 (by decide +kernel) rfl), Or.inl (gm 392 (by decide +kernel) rfl), (by decide +kernel), (by decide +kernel), (by decide +kernel), (by decide +kernel)⟩
set_option maxRecDepth 20000 in
theorem mp59 : MrP r59 := ⟨gm 397 rfl rfl, (gm 74 (by decide +kernel) rfl), Or.inl (gm 396 (by decide +kernel) rfl), (by decide +kernel), (by decide +kernel), (by decide +kernel), (by decide +kernel)⟩
set_option maxRecDepth 20000 in
theorem mp60 : MrP r60 := ⟨gm 389 rfl rfl, (gm 74 (by decide +kernel) rfl), Or.inl (gm 388 (by decide +kernel) rfl), (by decide +kernel), (by decide +kernel), (by decide +kernel), (by decide +kernel)⟩
set_option maxRecDepth 20000 in
theorem mp61 : MrP r61 := ⟨gm 401 rfl rfl, (gm 74 (by decide +kernel) rfl), Or.inl (gm 400 (by decide +kernel) rfl), (by decide +kernel), (by decide +kernel), (by decide +kernel), (by decide +kernel)⟩
set_option maxRecDepth 20000 in
theorem mp62 : MrP r62 := ⟨gm 404 rfl rfl, (gm 74 (by decide +kernel) rfl), Or.inr (gm 403 (by decide +kernel) rfl), (by decide +kernel), (by decide +kernel), (by decide +kernel), (by decide +kernel)⟩
set_option maxRecDepth 20000 in
theorem mp63 : MrP r63 := ⟨gm 297 rfl rfl, (gm 79 (by decide +kernel) rfl), Or.inl (gm 296 (by decide +kernel) rfl), (by decide +kernel), (by decide +kernel), (by decide +kernel), (by decide +kernel)⟩
set_option maxRecDepth 20000 in
theorem mp64 : MrP r64 := ⟨gm 949 rfl rfl, (gm 79 (by decide +kernel) rfl), Or.inl (gm 947 (by decide +kernel) rfl), (by decide +kernel), (by decide +kernel), (by decide +kernel), (by decide +kernel)⟩
set_option maxRecDepth 20000 in
theorem mp65 : MrP r65 := ⟨gm 204 rfl rfl, (gm 77 (by decide +kernel) rfl), Or.inl (gm 203 (by decide +kernel) rfl), (by decide +kernel), (by decide +kernel), (by decide +kernel), (by decide +kernel)⟩
set_option maxRecDepth 20000 in
theorem mp66 : MrP r66 := ⟨gm 822 rfl rfl, (gm 77 (by decide +kernel) rfl), Or.inl (gm 820 (by decide +kernel) rfl), (by decide +kernel), (by decide +kernel), (by decide +kernel), (by decide +kernel)⟩
set_option maxRecDepth 20000 in
theorem mp67 : MrP r67 := ⟨gm 826 rfl rfl, (gm 77 (by decide +kernel) rfl), Or.inl (gm 825 (by decide +kernel) rfl), (by decide +kernel), (by decide +kernel), (by decide +kernel), (by decide +kernel)⟩
set_option maxRecDepth 20000 in
theorem mp68 : MrP r68 := ⟨gm 830 rfl rfl, (gm 77 (by decide +kernel) rfl), Or.inl (gm 829 (by decide +kernel) rfl), (by decide +kernel), (by decide +kernel), (by decide +kernel), (by decide +kernel)⟩
set_option maxRecDepth 20000 in
theorem mp69 : MrP r69 := ⟨gm 840 rfl rfl, (gm 77 (by decide +kernel) rfl), Or.inr (gm 839 (by decide +kernel) rfl), (by decide +kernel), (by decide +kernel), (by decide +kernel), (by decide +kernel)⟩
set_option maxRecDepth 20000 in
theorem mp70 : MrP r70 := ⟨gm 853 rfl rfl, (gm 77 (by decide +kernel) rfl), Or.inl (gm 852 (by decide +kernel) rfl), (by decide +kernel), (by decide +kernel), (by decide +kernel), (by decide +kernel)⟩
set_option maxRecDepth 20000 in
theorem mp71 : MrP r71 := ⟨gm 857 rfl rfl, (gm 77 (by decide +kernel) rfl), Or.inl (gm 856 (by decide +kernel) rfl), (by decide +kernel), (by decide +kernel), (by decide +kernel), (by decide +kernel)⟩
set_option maxRecDepth 20000 in
theorem mp72 : MrP r72 := ⟨gm 860 rfl rfl, (gm 77 (by decide +kernel) rfl), Or.inr (gm 859 (by decide +kernel) rfl), (by decide +kernel), (by decide +kernel), (by decide +kernel), (by decide +kernel)⟩
set_option maxRecDepth 20000 in
theorem mp73 : MrP r73 := ⟨gm 869 rfl rfl, (gm 77 (by decide +kernel) rfl), Or.inl (gm 868 (by decide +kernel) rfl), (by decide +kernel), (by decide +kernel), (by decide +kernel), (by decide +kernel)⟩
set_option maxRecDepth 20000 in
theorem mp74 : MrP r74 := ⟨gm 873 rfl rfl, (gm 77 (by decide +kernel) rfl), Or.inl (gm 872 (by decide +kernel) rfl), (by decide +kernel), (by decide +kernel), (by decide +kernel), (by decide +kernel)⟩
set_option maxRecDepth 20000 in
theorem mp75 : MrP r75 := ⟨gm 877 rfl rfl, (gm 77 (by decide +kernel) rfl), Or.inl (gm 876 (by decide +kernel) rfl), (by decide +kernel), (by decide +kernel), (by decide +kernel), (by decide +kernel)⟩
set_option maxRecDepth 20000 in
theorem mp76 : MrP r76 := ⟨gm 881 rfl rfl, (gm 77 (by decide +kernel) rfl), Or.inl (gm 880 (by decide +kernel) rfl), (by decide +kernel), (by decide +kernel), (by decide +kernel), (by decide +kernel)⟩
set_option maxRecDepth 20000 in
theorem mp77 : MrP r77 := ⟨gm 885 rfl rfl, (gm 77 (by decide +kernel) rfl), Or.inl (gm 884 (by decide +kernel) rfl), (by decide +kernel), (by decide +kernel), (by decide +kernel), (by decide +kernel)⟩
set_option maxRecDepth 20000 in
theorem mp78 : MrP r78 := ⟨gm 196 rfl rfl, (gm 76 (by decide +kernel) rfl), Or.inl (gm 195 (by decide +kernel) rfl), (by decide +kernel), (by decide +kernel), (by decide +kernel), (by decide +kernel)⟩
set_option maxRecDepth 20000 in
theorem mp79 : MrP r79 := ⟨gm 650 rfl rfl, (gm 76 (by decide +kernel) rfl), Or.inl (gm 648 (by decide +kernel) rfl), (by decide +kernel), (by decide +kernel), (by decide +kernel), (by decide +kernel)⟩
set_option maxRecDepth 20000 in
theorem mp80 : MrP r80 := ⟨gm 769 rfl rfl, (gm 76 (by decide +kernel) rfl), Or.inl (gm 767 (by decide +kernel) rfl), (by decide +kernel), (by decide +kernel), (by decide +kernel), (by decide +kernel)⟩
set_option maxRecDepth 20000 in
theorem mp81 : MrP r81 := ⟨gm 774 rfl rfl, (gm 76 (by decide +kernel) rfl), Or.inl (gm 773 (by decide +kernel) rfl), (by decide +kernel), (by decide +kernel), (by decide +kernel), (by decide +kernel)⟩
set_option maxRecDepth 20000 in
theorem mp82 : MrP r82 := ⟨gm 782 rfl rfl, (gm 76 (by decide +kernel) rfl), Or.inl (gm 780 (by decide +kernel) rfl), (by decide +kernel), (by decide +kernel), (by decide +kernel), (by decide +kernel)⟩
set_option maxRecDepth 20000 in
theorem mp83 : MrP r83 := ⟨gm 790 rfl rfl, (gm 76 (by decide +kernel) rfl), Or.inl (gm 788 (by decide +kernel) rfl), (by decide +kernel), (by decide +kernel), (by decide +kernel), (by decide +kernel)⟩
set_option maxRecDepth 20000 in
theorem mp84 : MrP r84 := ⟨gm 806 rfl rfl, (gm 76 (by decide +kernel) rfl), Or.inl (gm 804 (by decide +kernel) rfl), (by decide +kernel), (by decide +kernel), (by decide +kernel), (by decide +kernel)⟩
set_option maxRecDepth 20000 in
theorem mp85 : MrP r85 := ⟨gm 810 rfl rfl, (gm 76 (by decide +kernel) rfl), Or.inl (gm 809 (by decide +kernel) rfl), (by decide +kernel), (by decide +kernel), (by decide +kernel), (by decide +kernel)⟩
set_option maxRecDepth 20000 in
theorem mp86 : MrP r86 := ⟨gm 903 rfl rfl, (gm 76 (by decide +kernel) rfl), Or.inl (gm 901 (by decide +kernel) rfl), (by decide +kernel), (by decide +kernel), (by decide +kernel), (by decide +kernel)⟩
set_option maxRecDepth 20000 in
theorem mp87 : MrP r87 := ⟨gm 818 rfl rfl, (gm 76 (by decide +kernel) rfl), Or.inl (gm 816 (by decide +kernel) rfl), (by decide +kernel), (by decide +kernel), (by decide +kernel), (by decide +kernel)⟩
set_option maxRecDepth 20000 in
theorem mp88 : MrP r88 := ⟨gm 999 rfl rfl, (gm 76 (by decide +kernel) rfl), Or.inl (gm 997 (by decide +kernel) rfl), (by decide +kernel), (by decide +kernel), (by decide +kernel), (by decide +kernel)⟩
set_option maxRecDepth 20000 in
theorem mp89 : MrP r89 := ⟨gm 1003 rfl rfl, (gm 76 (by decide +kernel) rfl), Or.inl (gm 1001 (by decide +kernel) rfl), (by decide +kernel), (by decide +kernel), (by decide +kernel), (by decide +kernel)⟩
set_option maxRecDepth 20000 in
theorem mp90 : MrP r90 := ⟨gm 93 rfl rfl, (gm 73 (by decide +kernel) rfl), Or.inl (gm 92 (by decide +kernel) rfl), (by decide +kernel), (by decide +kernel), (by decide +kernel), (by decide +kernel)⟩
set_option maxRecDepth 20000 in
theorem mp91 : MrP r91 := ⟨gm 351 rfl rfl, (gm 73 (by decide +kernel) rfl), Or.inl (gm 349 (by decide +kernel) rfl), (by decide +kernel), (by decide +kernel), (by decide +kernel), (by decide +kernel)⟩
set_option maxRecDepth 20000 in
theorem mp92 : MrP r92 := ⟨gm 477 rfl rfl, (gm 73 (by decide +kernel) rfl), Or.inl (gm 475 (by decide +kernel) rfl), (by decide +kernel), (by decide +kernel), (by decide +kernel), (by decide +kernel)⟩
set_option maxRecDepth 20000 in
theorem mp93 : MrP r93 := ⟨gm 494 rfl rfl, (gm 73 (by decide +kernel) rfl), Or.inl (gm 492 (by decide +kernel) rfl), (by decide +kernel), (by decide +kernel), (by decide +kernel), (by decide +kernel)⟩
set_option maxRecDepth 20000 in
theorem mp94 : MrP r94 := ⟨gm 503 rfl rfl, (gm 73 (by decide +kernel) rfl), Or.inl (gm 501 (by decide +kernel) rfl), (by decide +kernel), (by decide +kernel), (by decide +kernel), (by decide +kernel)⟩
set_option maxRecDepth 20000 in
theorem mp95 : MrP r95 := ⟨gm 517 rfl rfl, (gm 73 (by decide +kernel) rfl), Or.inl (gm 515 (by decide +kernel) rfl), (by decide +kernel), (by decide +kernel), (by decide +kernel), (by decide +kernel)⟩
set_option maxRecDepth 20000 in
theorem mp96 : MrP r96 := ⟨gm 594 rfl rfl, (gm 73 (by decide +kernel) rfl), Or.inl (gm 592 (by decide +kernel) rfl), (by decide +kernel), (by decide +kernel), (by decide +kernel), (by decide +kernel)⟩
set_option maxRecDepth 20000 in
theorem mp97 : MrP r97 := ⟨gm 602 rfl rfl, (gm 73 (by decide +kernel) rfl), Or.inl (gm 600 (by decide +kernel) rfl), (by decide +kernel), (by decide +kernel), (by decide +kernel), (by decide +kernel)⟩
set_option maxRecDepth 20000 in
theorem mp98 : MrP r98 := ⟨gm 614 rfl rfl, (gm 73 (by decide +kernel) rfl), Or.inl (gm 612 (by decide +kernel) rfl), (by decide +kernel), (by decide +kernel), (by decide +kernel), (by decide +kernel)⟩
set_option maxRecDepth 20000 in
theorem mp99 : MrP r99 := ⟨gm 632 rfl rfl, (gm 73 (by decide +kernel) rfl), Or.inl (gm 630 (by decide +kernel) rfl), (by decide +kernel), (by decide +kernel), (by decide +kernel), (by decide +kernel)⟩
set_option maxRecDepth 20000 in
theorem mp100 : MrP r100 := ⟨gm 636 rfl rfl, (gm 73 (by decide +kernel) rfl), Or.inl (gm 634 (by decide +kernel) rfl), (by decide +kernel), (by decide +kernel), (by decide +kernel), (by decide +kernel)⟩
set_option maxRecDepth 20000 in
theorem mp101 : MrP r101 := ⟨gm 643 rfl rfl, (gm 73 (by decide +kernel) rfl), Or.inl (gm 641 (by decide +kernel) rfl), (by decide +kernel), (by decide +kernel), (by decide +kernel), (by decide +kernel)⟩
set_option maxRecDepth 20000 in
theorem mp102 : MrP r102 := ⟨gm 723 rfl rfl, (gm 73 (by decide +kernel) rfl), Or.inl (gm 721 (by decide +kernel) rfl), (by decide +kernel), (by decide +kernel), (by decide +kernel), (by decide +kernel)⟩
set_option maxRecDepth 20000 in
theorem mp103 : MrP r103 := ⟨gm 742 rfl rfl, (gm 73 (by decide +kernel) rfl), Or.inl (gm 740 (by decide +kernel) rfl), (by decide +kernel), (by decide +kernel), (by decide +kernel), (by decide +kernel)⟩
set_option maxRecDepth 20000 in
theorem mp104 : MrP r104 := ⟨gm 749 rfl rfl, (gm 73 (by decide +kernel) rfl), Or.inl (gm 747 (by decide +kernel) rfl), (by decide +kernel), (by decide +kernel), (by decide +kernel), (by decide +kernel)⟩
set_option maxRecDepth 20000 in
theorem mp105 : MrP r105 := ⟨gm 765 rfl rfl, (gm 73 (by decide +kernel) rfl), Or.inl (gm 763 (by decide +kernel) rfl), (by decide +kernel), (by decide +kernel), (by decide +kernel), (by decide +kernel)⟩
set_option maxRecDepth 20000 in
theorem mp106 : MrP r106 := ⟨gm 778 rfl rfl, (gm 73 (by decide +kernel) rfl), Or.inl (gm 776 (by decide +kernel) rfl), (by decide +kernel), (by decide +kernel), (by decide +kernel), (by decide +kernel)⟩
set_option maxRecDepth 20000 in
theorem mp107 : MrP r107 := ⟨gm 786 rfl rfl, (gm 73 (by decide +kernel) rfl), Or.inl (gm 784 (by decide +kernel) rfl), (by decide +kernel), (by decide +kernel), (by decide +kernel), (by decide +kernel)⟩
set_option maxRecDepth 20000 in
theorem mp108 : MrP r108 := ⟨gm 794 rfl rfl, (gm 73 (by decide +kernel) rfl), Or.inl (gm 792 (by decide +kernel) rfl), (by decide +kernel), (by decide +kernel), (by decide +kernel), (by decide +kernel)⟩
set_option maxRecDepth 20000 in
theorem mp109 : MrP r109 := ⟨gm 798 rfl rfl, (gm 73 (by decide +kernel) rfl), Or.inl (gm 796 (by decide +kernel) rfl), (by decide +kernel), (by decide +kernel), (by decide +kernel), (by decide +kernel)⟩
set_option maxRecDepth 20000 in
theorem mp110 : MrP r110 := ⟨gm 802 rfl rfl, (gm 73 (by decide +kernel) rfl), Or.inl (gm 800 (by decide +kernel) rfl), (by decide +kernel), (by decide +kernel), (by decide +kernel), (by decide +kernel)⟩
set_option maxRecDepth 20000 in
theorem mp111 : MrP r111 := ⟨gm 814 rfl rfl, (gm 73 (by decide +kernel) rfl), Or.inl (gm 812 (by decide +kernel) rfl), (by decide +kernel), (by decide +kernel), (by decide +kernel), (by decide +kernel)⟩
set_option maxRecDepth 20000 in
theorem mp112 : MrP r112 := ⟨gm 890 rfl rfl, (gm 73 (by decide +kernel) rfl), Or.inl (gm 888 (by decide +kernel) rfl), (by decide +kernel), (by decide +kernel), (by decide +kernel), (by decide +kernel)⟩
set_option maxRecDepth 20000 in
theorem mp113 : MrP r113 := ⟨gm 894 rfl rfl, (gm 73 (by decide +kernel) rfl), Or.inl (gm 892 (by decide +kernel) rfl), (by decide +kernel), (by decide +kernel), (by decide +kernel), (by decide +kernel)⟩
set_option maxRecDepth 20000 in
theorem mp114 : MrP r114 := ⟨gm 908 rfl rfl, (gm 73 (by decide +kernel) rfl), Or.inl (gm 906 (by decide +kernel) rfl), (by decide +kernel), (by decide +kernel), (by decide +kernel), (by decide +kernel)⟩
set_option maxRecDepth 20000 in
theorem mp115 : MrP r115 := ⟨gm 917 rfl rfl, (gm 73 (by decide +kernel) rfl), Or.inl (gm 915 (by decide +kernel) rfl), (by decide +kernel), (by decide +kernel), (by decide +kernel), (by decide +kernel)⟩
set_option maxRecDepth 20000 in
theorem mp116 : MrP r116 := ⟨gm 921 rfl rfl, (gm 73 (by decide +kernel) rfl), Or.inl (gm 919 (by decide +kernel) rfl), (by decide +kernel), (by decide +kernel), (by decide +kernel), (by decide +kernel)⟩
set_option maxRecDepth 20000 in
theorem mp117 : MrP r117 := ⟨gm 929 rfl rfl, (gm 73 (by decide +kernel) rfl), Or.inl (gm 927 (by decide +kernel) rfl), (by decide +kernel), (by decide +kernel), (by decide +kernel), (by decide +kernel)⟩
set_option maxRecDepth 20000 in
theorem mp118 : MrP r118 := ⟨gm 933 rfl rfl, (gm 73 (by decide +kernel) rfl), Or.inl (gm 931 (by decide +kernel) rfl), (by decide +kernel), (by decide +kernel), (by decide +kernel), (by decide +kernel)⟩
set_option maxRecDepth 20000 in
theorem mp119 : MrP r119 := ⟨gm 938 rfl rfl, (gm 73 (by decide +kernel) rfl), Or.inl (gm 936 (by decide +kernel) rfl), (by decide +kernel), (by decide +kernel), (by decide +kernel), (by decide +kernel)⟩
set_option maxRecDepth 20000 in
theorem mp120 : MrP r120 := ⟨gm 968 rfl rfl, (gm 73 (by decide +kernel) rfl), Or.inl (gm 966 (by decide +kernel) rfl), (by decide +kernel), (by decide +kernel), (by decide +kernel), (by decide +kernel)⟩
set_option maxRecDepth 20000 in
theorem mp121 : MrP r121 := ⟨gm 981 rfl rfl, (gm 73 (by decide +kernel) rfl), Or.inl (gm 979 (by decide +kernel) rfl), (by decide +kernel), (by decide +kernel), (by decide +kernel), (by decide +kernel)⟩
set_option maxRecDepth 20000 in
theorem mp122 : MrP r122 := ⟨gm 987 rfl rfl, (gm 73 (by decide +kernel) rfl), Or.inl (gm 985 (by decide +kernel) rfl), (by decide +kernel), (by decide +kernel), (by decide +kernel), (by decide +kernel)⟩
set_option maxRecDepth 20000 in
theorem mp123 : MrP r123 := ⟨gm 991 rfl rfl, (gm 73 (by decide +kernel) rfl), Or.inl (gm 989 (by decide +kernel) rfl), (by decide +kernel), (by decide +kernel), (by decide +kernel), (by decide +kernel)⟩
set_option maxRecDepth 20000 in
theorem mp124 : MrP r124 := ⟨gm 995 rfl rfl, (gm 73 (by decide +kernel) rfl), Or.inl (gm 993 (by decide +kernel) rfl), (by decide +kernel), (by decide +kernel), (by decide +kernel), (by decide +kernel)⟩
set_option maxRecDepth 20000 in
theorem mp125 : MrP r125 := ⟨gm 481 rfl rfl, (gm 73 (by decide +kernel) rfl), Or.inl (gm 480 (by decide +kernel) rfl), (by decide +kernel), (by decide +kernel), (by decide +kernel), (by decide +kernel)⟩
set_option maxRecDepth 20000 in
theorem mp126 : MrP r126 := ⟨gm 498 rfl rfl, (gm 73 (by decide +kernel) rfl), Or.inl (gm 497 (by decide +kernel) rfl), (by decide +kernel), (by decide +kernel), (by decide +kernel), (by decide +kernel)⟩
set_option maxRecDepth 20000 in
theorem mp127 : MrP r127 := ⟨gm 727 rfl rfl, (gm 73 (by decide +kernel) rfl), Or.inl (gm 726 (by decide +kernel) rfl), (by decide +kernel), (by decide +kernel), (by decide +kernel), (by decide +kernel)⟩
set_option maxRecDepth 20000 in
theorem mp128 : MrP r128 := ⟨gm 520 rfl rfl, (gm 73 (by decide +kernel) rfl), Or.inr (gm 519 (by decide +kernel) rfl), (by decide +kernel), (by decide +kernel), (by decide +kernel), (by decide +kernel)⟩
set_option maxRecDepth 20000 in
theorem mp129 : MrP r129 := ⟨gm 745 rfl rfl, (gm 73 (by decide +kernel) rfl), Or.inr (gm 744 (by decide +kernel) rfl), (by decide +kernel), (by decide +kernel), (by decide +kernel), (by decide +kernel)⟩
set_option maxRecDepth 20000 in
theorem mp130 : MrP r130 := ⟨gm 646 rfl rfl, (gm 73 (by decide +kernel) rfl), Or.inr (gm 645 (by decide +kernel) rfl), (by decide +kernel), (by decide +kernel), (by decide +kernel), (by decide +kernel)⟩
set_option maxRecDepth 20000 in
theorem mp131 : MrP r131 := ⟨gm 358 rfl rfl, (gm 73 (by decide +kernel) rfl), Or.inr (gm 357 (by decide +kernel) rfl), (by decide +kernel), (by decide +kernel), (by decide +kernel), (by decide +kernel)⟩
set_option maxRecDepth 20000 in
theorem mp132 : MrP r132 := ⟨gm 361 rfl rfl, (gm 73 (by decide +kernel) rfl), Or.inr (gm 360 (by decide +kernel) rfl), (by decide +kernel), (by decide +kernel), (by decide +kernel), (by decide +kernel)⟩
set_option maxRecDepth 20000 in
theorem mp133 : MrP r133 := ⟨gm 373 rfl rfl, (gm 73 (by decide +kernel) rfl), Or.inl (gm 372 (by decide +kernel) rfl), (by decide +kernel), (by decide +kernel), (by decide +kernel), (by decide +kernel)⟩
set_option maxRecDepth 20000 in
theorem mp134 : MrP r134 := ⟨gm 365 rfl rfl, (gm 73 (by decide +kernel) rfl), Or.inl (gm 364 (by decide +kernel) rfl), (by decide +kernel), (by decide +kernel), (by decide +kernel), (by decide +kernel)⟩
set_option maxRecDepth 20000 in
theorem mp135 : MrP r135 := ⟨gm 355 rfl rfl, (gm 73 (by decide +kernel) rfl), Or.inl (gm 354 (by decide +kernel) rfl), (by decide +kernel), (by decide +kernel), (by decide +kernel), (by decide +kernel)⟩
set_option maxRecDepth 20000 in
theorem mp136 : MrP r136 := ⟨gm 606 rfl rfl, (gm 73 (by decide +kernel) rfl), Or.inl (gm 605 (by decide +kernel) rfl), (by decide +kernel), (by decide +kernel), (by decide +kernel), (by decide +kernel)⟩
set_option maxRecDepth 20000 in
theorem mp137 : MrP r137 := ⟨gm 639 rfl rfl, (gm 73 (by decide +kernel) rfl), Or.inr (gm 638 (by decide +kernel) rfl), (by decide +kernel), (by decide +kernel), (by decide +kernel), (by decide +kernel)⟩
set_option maxRecDepth 20000 in
theorem mp138 : MrP r138 := ⟨gm 1008 rfl rfl, (gm 81 (by decide +kernel) rfl), Or.inl (gm 1007 (by decide +kernel) rfl), (by decide +kernel), (by decide +kernel), (by decide +kernel), (by decide +kernel)⟩
set_option maxRecDepth 20000 in
theorem mp139 : MrP r139 := ⟨gm 1140 rfl rfl, (gm 81 (by decide +kernel) rfl), Or.inr (gm 1139 (by decide +kernel) rfl), (by decide +kernel), (by decide +kernel), (by decide +kernel), (by decide +kernel)⟩
set_option maxRecDepth 20000 in
theorem mp140 : MrP r140 := ⟨gm 1234 rfl rfl, (gm 81 (by decide +kernel) rfl), Or.inr (gm 1233 (by decide +kernel) rfl), (by decide +kernel), (by decide +kernel), (by decide +kernel), (by decide +kernel)⟩
set_option maxRecDepth 20000 in
theorem mp141 : MrP r141 := ⟨gm 1385 rfl rfl, (gm 81 (by decide +kernel) rfl), Or.inr (gm 1384 (by decide +kernel) rfl), (by decide +kernel), (by decide +kernel), (by decide +kernel), (by decide +kernel)⟩
set_option maxRecDepth 20000 in
theorem mp142 : MrP r142 := ⟨gm 1209 rfl rfl, (gm 81 (by decide +kernel) rfl), Or.inr (gm 1208 (by decide +kernel) rfl), (by decide +kernel), (by decide +kernel), (by decide +kernel), (by decide +kernel)⟩
set_option maxRecDepth 20000 in
theorem mp143 : MrP r143 := ⟨gm 1144 rfl rfl, (gm 81 (by decide +kernel) rfl), Or.inl (gm 1143 (by decide +kernel) rfl), (by decide +kernel), (by decide +kernel), (by decide +kernel), (by decide +kernel)⟩
set_option maxRecDepth 20000 in
theorem mp144 : MrP r144 := ⟨gm 1149 rfl rfl, (gm 81 (by decide +kernel) rfl), Or.inl (gm 1148 (by decide +kernel) rfl), (by decide +kernel), (by decide +kernel), (by decide +kernel), (by decide +kernel)⟩
set_option maxRecDepth 20000 in
theorem mp145 : MrP r145 := ⟨gm 1423 rfl rfl, (gm 81 (by decide +kernel) rfl), Or.inl (gm 1422 (by decide +kernel) rfl), (by decide +kernel), (by decide +kernel), (by decide +kernel), (by decide +kernel)⟩
set_option maxRecDepth 20000 in
theorem mp146 : MrP r146 := ⟨gm 1133 rfl rfl, (gm 81 (by decide +kernel) rfl), Or.inl (gm 1132 (by decide +kernel) rfl), (by decide +kernel), (by decide +kernel), (by decide +kernel), (by decide +kernel)⟩
set_option maxRecDepth 20000 in
theorem mp147 : MrP r147 := ⟨gm 1194 rfl rfl, (gm 81 (by decide +kernel) rfl), Or.inl (gm 1193 (by decide +kernel) rfl), (by decide +kernel), (by decide +kernel), (by decide +kernel), (by decide +kernel)⟩
set_option maxRecDepth 20000 in
theorem mp148 : MrP r148 := ⟨gm 1218 rfl rfl, (gm 81 (by decide +kernel) rfl), Or.inl (gm 1217 (by decide +kernel) rfl), (by decide +kernel), (by decide +kernel), (by decide +kernel), (by decide +kernel)⟩
set_option maxRecDepth 20000 in
theorem mp149 : MrP r149 := ⟨gm 1202 rfl rfl, (gm 81 (by decide +kernel) rfl), Or.inl (gm 1201 (by decide +kernel) rfl), (by decide +kernel), (by decide +kernel), (by decide +kernel), (by decide +kernel)⟩
set_option maxRecDepth 20000 in
theorem mp150 : MrP r150 := ⟨gm 1160 rfl rfl, (gm 81 (by decide +kernel) rfl), Or.inl (gm 1159 (by decide +kernel) rfl), (by decide +kernel), (by decide +kernel), (by decide +kernel), (by decide +kernel)⟩
set_option maxRecDepth 20000 in
theorem mp151 : MrP r151 := ⟨gm 1164 rfl rfl, (gm 81 (by decide +kernel) rfl), Or.inl (gm 1163 (by decide +kernel) rfl), (by decide +kernel), (by decide +kernel), (by decide +kernel), (by decide +kernel)⟩
set_option maxRecDepth 20000 in
theorem mp152 : MrP r152 := ⟨gm 1174 rfl rfl, (gm 81 (by decide +kernel) rfl), Or.inl (gm 1173 (by decide +kernel) rfl), (by decide +kernel), (by decide +kernel), (by decide +kernel), (by decide +kernel)⟩
set_option maxRecDepth 20000 in
theorem mp153 : MrP r153 := ⟨gm 1170 rfl rfl, (gm 81 (by decide +kernel) rfl), Or.inl (gm 1169 (by decide +kernel) rfl), (by decide +kernel), (by decide +kernel), (by decide +kernel), (by decide +kernel)⟩
set_option maxRecDepth 20000 in
theorem mp154 : MrP r154 := ⟨gm 1182 rfl rfl, (gm 81 (by decide +kernel) rfl), Or.inl (gm 1181 (by decide +kernel) rfl), (by decide +kernel), (by decide +kernel), (by decide +kernel), (by decide +kernel)⟩
set_option maxRecDepth 20000 in
theorem mp155 : MrP r155 := ⟨gm 1186 rfl rfl, (gm 81 (by decide +kernel) rfl), Or.inl (gm 1185 (by decide +kernel) rfl), (by decide +kernel), (by decide +kernel), (by decide +kernel), (by decide +kernel)⟩
set_option maxRecDepth 20000 in
theorem mp156 : MrP r156 := ⟨gm 1178 rfl rfl, (gm 81 (by decide +kernel) rfl), Or.inl (gm 1177 (by decide +kernel) rfl), (by decide +kernel), (by decide +kernel), (by decide +kernel), (by decide +kernel)⟩
set_option maxRecDepth 20000 in
theorem mp157 : MrP r157 := ⟨gm 1156 rfl rfl, (gm 81 (by decide +kernel) rfl), Or.inl (gm 1155 (by decide +kernel) rfl), (by decide +kernel), (by decide +kernel), (by decide +kernel), (by decide +kernel)⟩
set_option maxRecDepth 20000 in
theorem mp158 : MrP r158 := ⟨gm 1129 rfl rfl, (gm 81 (by decide +kernel) rfl), Or.inl (gm 1127 (by decide +kernel) rfl), (by decide +kernel), (by decide +kernel), (by decide +kernel), (by decide +kernel)⟩
set_option maxRecDepth 20000 in
theorem mp159 : MrP r159 := ⟨gm 1206 rfl rfl, (gm 81 (by decide +kernel) rfl), Or.inl (gm 1205 (by decide +kernel) rfl), (by decide +kernel), (by decide +kernel), (by decide +kernel), (by decide +kernel)⟩
set_option maxRecDepth 20000 in
theorem mp160 : MrP r160 := ⟨gm 1198 rfl rfl, (gm 81 (by decide +kernel) rfl), Or.inl (gm 1197 (by decide +kernel) rfl), (by decide +kernel), (by decide +kernel), (by decide +kernel), (by decide +kernel)⟩
set_option maxRecDepth 20000 in
theorem mp161 : MrP r161 := ⟨gm 1190 rfl rfl, (gm 81 (by decide +kernel) rfl), Or.inl (gm 1188 (by decide +kernel) rfl), (by decide +kernel), (by decide +kernel), (by decide +kernel), (by decide +kernel)⟩
set_option maxRecDepth 20000 in
theorem mp162 : MrP r162 := ⟨gm 1214 rfl rfl, (gm 81 (by decide +kernel) rfl), Or.inl (gm 1212 (by decide +kernel) rfl), (by decide +kernel), (by decide +kernel), (by decide +kernel), (by decide +kernel)⟩
set_option maxRecDepth 20000 in
theorem mp163 : MrP r163 := ⟨gm 1223 rfl rfl, (gm 81 (by decide +kernel) rfl), Or.inl (gm 1221 (by decide +kernel) rfl), (by decide +kernel), (by decide +kernel), (by decide +kernel), (by decide +kernel)⟩
set_option maxRecDepth 20000 in
theorem mp164 : MrP r164 := ⟨gm 1249 rfl rfl, (gm 81 (by decide +kernel) rfl), Or.inr (gm 1248 (by decide +kernel) rfl), (by decide +kernel), (by decide +kernel), (by decide +kernel), (by decide +kernel)⟩
set_option maxRecDepth 20000 in
theorem mp165 : MrP r165 := ⟨gm 1246 rfl rfl, (gm 81 (by decide +kernel) rfl), Or.inr (gm 1245 (by decide +kernel) rfl), (by decide +kernel), (by decide +kernel), (by decide +kernel), (by decide +kernel)⟩
set_option maxRecDepth 20000 in
theorem mp166 : MrP r166 := ⟨gm 1252 rfl rfl, (gm 81 (by decide +kernel) rfl), Or.inr (gm 1251 (by decide +kernel) rfl), (by decide +kernel), (by decide +kernel), (by decide +kernel), (by decide +kernel)⟩
set_option maxRecDepth 20000 in
theorem mp167 : MrP r167 := ⟨gm 1260 rfl rfl, (gm 81 (by decide +kernel) rfl), Or.inr (gm 1259 (by decide +kernel) rfl), (by decide +kernel), (by decide +kernel), (by decide +kernel), (by decide +kernel)⟩
set_option maxRecDepth 20000 in
theorem mp168 : MrP r168 := ⟨gm 1269 rfl rfl, (gm 81 (by decide +kernel) rfl), Or.inl (gm 1268 (by decide +kernel) rfl), (by decide +kernel), (by decide +kernel), (by decide +kernel), (by decide +kernel)⟩
set_option maxRecDepth 20000 in
theorem mp169 : MrP r169 := ⟨gm 1265 rfl rfl, (gm 81 (by decide +kernel) rfl), Or.inl (gm 1264 (by decide +kernel) rfl), (by decide +kernel), (by decide +kernel), (by decide +kernel), (by decide +kernel)⟩
set_option maxRecDepth 20000 in
theorem mp170 : MrP r170 := ⟨gm 1274 rfl rfl, (gm 81 (by decide +kernel) rfl), Or.inl (gm 1273 (by decide +kernel) rfl), (by decide +kernel), (by decide +kernel), (by decide +kernel), (by decide +kernel)⟩
set_option maxRecDepth 20000 in
theorem mp171 : MrP r171 := ⟨gm 1257 rfl rfl, (gm 81 (by decide +kernel) rfl), Or.inl (gm 1256 (by decide +kernel) rfl), (by decide +kernel), (by decide +kernel), (by decide +kernel), (by decide +kernel)⟩
set_option maxRecDepth 20000 in
theorem mp172 : MrP r172 := ⟨gm 1243 rfl rfl, (gm 81 (by decide +kernel) rfl), Or.inl (gm 1242 (by decide +kernel) rfl), (by decide +kernel), (by decide +kernel), (by decide +kernel), (by decide +kernel)⟩
set_option maxRecDepth 20000 in
theorem mp173 : MrP r173 := ⟨gm 1239 rfl rfl, (gm 81 (by decide +kernel) rfl), Or.inl (gm 1238 (by decide +kernel) rfl), (by decide +kernel), (by decide +kernel), (by decide +kernel), (by decide +kernel)⟩
set_option maxRecDepth 20000 in
theorem mp174 : MrP r174 := ⟨gm 1230 rfl rfl, (gm 81 (by decide +kernel) rfl), Or.inr (gm 1229 (by decide +kernel) rfl), (by decide +kernel), (by decide +kernel), (by decide +kernel), (by decide +kernel)⟩
set_option maxRecDepth 20000 in
theorem mp175 : MrP r175 := ⟨gm 1227 rfl rfl, (gm 81 (by decide +kernel) rfl), Or.inl (gm 1225 (by decide +kernel) rfl), (by decide +kernel), (by decide +kernel), (by decide +kernel), (by decide +kernel)⟩
set_option maxRecDepth 20000 in
theorem mp176 : MrP r176 := ⟨gm 1278 rfl rfl, (gm 81 (by decide +kernel) rfl), Or.inl (gm 1276 (by decide +kernel) rfl), (by decide +kernel), (by decide +kernel), (by decide +kernel), (by decide +kernel)⟩
set_option maxRecDepth 20000 in
theorem mp177 : MrP r177 := ⟨gm 1286 rfl rfl, (gm 81 (by decide +kernel) rfl), Or.inl (gm 1285 (by decide +kernel) rfl), (by decide +kernel), (by decide +kernel), (by decide +kernel), (by decide +kernel)⟩
set_option maxRecDepth 20000 in
theorem mp178 : MrP r178 := ⟨gm 1282 rfl rfl, (gm 81 (by decide +kernel) rfl), Or.inl (gm 1280 (by decide +kernel) rfl), (by decide +kernel), (by decide +kernel), (by decide +kernel), (by decide +kernel)⟩
set_option maxRecDepth 20000 in
theorem mp179 : MrP r179 := ⟨gm 1290 rfl rfl, (gm 81 (by decide +kernel) rfl), Or.inl (gm 1288 (by decide +kernel) rfl), (by decide +kernel), (by decide +kernel), (by decide +kernel), (by decide +kernel)⟩
set_option maxRecDepth 20000 in
theorem mp180 : MrP r180 := ⟨gm 1295 rfl rfl, (gm 81 (by decide +kernel) rfl), Or.inl (gm 1293 (by decide +kernel) rfl), (by decide +kernel), (by decide +kernel), (by decide +kernel), (by decide +kernel)⟩
set_option maxRecDepth 20000 in
theorem mp181 : MrP r181 := ⟨gm 1303 rfl rfl, (gm 81 (by decide +kernel) rfl), Or.inl (gm 1302 (by decide +kernel) rfl), (by decide +kernel), (by decide +kernel), (by decide +kernel), (by decide +kernel)⟩
set_option maxRecDepth 20000 in
theorem mp182 : MrP r182 := ⟨gm 1299 rfl rfl, (gm 81 (by decide +kernel) rfl), Or.inl (gm 1297 (by decide +kernel) rfl), (by decide +kernel), (by decide +kernel), (by decide +kernel), (by decide +kernel)⟩
set_option maxRecDepth 20000 in
theorem mp183 : MrP r183 := ⟨gm 1319 rfl rfl, (gm 81 (by decide +kernel) rfl), Or.inl (gm 1318 (by decide +kernel) rfl), (by decide +kernel), (by decide +kernel), (by decide +kernel), (by decide +kernel)⟩
set_option maxRecDepth 20000 in
theorem mp184 : MrP r184 := ⟨gm 1310 rfl rfl, (gm 81 (by decide +kernel) rfl), Or.inr (gm 1309 (by decide +kernel) rfl), (by decide +kernel), (by decide +kernel), (by decide +kernel), (by decide +kernel)⟩
set_option maxRecDepth 20000 in
theorem mp185 : MrP r185 := ⟨gm 1307 rfl rfl, (gm 81 (by decide +kernel) rfl), Or.inl (gm 1305 (by decide +kernel) rfl), (by decide +kernel), (by decide +kernel), (by decide +kernel), (by decide +kernel)⟩
set_option maxRecDepth 20000 in
theorem mp186 : MrP r186 := ⟨gm 1315 rfl rfl, (gm 81 (by decide +kernel) rfl), Or.inl (gm 1313 (by decide +kernel) rfl), (by decide +kernel), (by decide +kernel), (by decide +kernel), (by decide +kernel)⟩
set_option maxRecDepth 20000 in
theorem mp187 : MrP r187 := ⟨gm 1326 rfl rfl, (gm 81 (by decide +kernel) rfl), Or.inr (gm 1325 (by decide +kernel) rfl), (by decide +kernel), (by decide +kernel), (by decide +kernel), (by decide +kernel)⟩
set_option maxRecDepth 20000 in
theorem mp188 : MrP r188 := ⟨gm 1323 rfl rfl, (gm 81 (by decide +kernel) rfl), Or.inl (gm 1321 (by decide +kernel) rfl), (by decide +kernel), (by decide +kernel), (by decide +kernel), (by decide +kernel)⟩
set_option maxRecDepth 20000 in
theorem mp189 : MrP r189 := ⟨gm 1334 rfl rfl, (gm 81 (by decide +kernel) rfl), Or.inl (gm 1333 (by decide +kernel) rfl), (by decide +kernel), (by decide +kernel), (by decide +kernel), (by decide +kernel)⟩
set_option maxRecDepth 20000 in
theorem mp190 : MrP r190 := ⟨gm 1330 rfl rfl, (gm 81 (by decide +kernel) rfl), Or.inl (gm 1328 (by decide +kernel) rfl), (by decide +kernel), (by decide +kernel), (by decide +kernel), (by decide +kernel)⟩
set_option maxRecDepth 20000 in
theorem mp191 : MrP r191 := ⟨gm 1338 rfl rfl, (gm 81 (by decide +kernel) rfl), Or.inl (gm 1336 (by decide +kernel) rfl), (by decide +kernel), (by decide +kernel), (by decide +kernel), (by decide +kernel)⟩
set_option maxRecDepth 20000 in
theorem mp192 : MrP r192 := ⟨gm 1343 rfl rfl, (gm 81 (by decide +kernel) rfl), Or.inl (gm 1341 (by decide +kernel) rfl), (by decide +kernel), (by decide +kernel), (by decide +kernel), (by decide +kernel)⟩
set_option maxRecDepth 20000 in
theorem mp193 : MrP r193 := ⟨gm 1347 rfl rfl, (gm 81 (by decide +kernel) rfl), Or.inl (gm 1345 (by decide +kernel) rfl), (by decide +kernel), (by decide +kernel), (by decide +kernel), (by decide +kernel)⟩
set_option maxRecDepth 20000 in
theorem mp194 : MrP r194 := ⟨gm 1351 rfl rfl, (gm 81 (by decide +kernel) rfl), Or.inl (gm 1349 (by decide +kernel) rfl), (by decide +kernel), (by decide +kernel), (by decide +kernel), (by decide +kernel)⟩
set_option maxRecDepth 20000 in
theorem mp195 : MrP r195 := ⟨gm 1355 rfl rfl, (gm 81 (by decide +kernel) rfl), Or.inl (gm 1353 (by decide +kernel) rfl), (by decide +kernel), (by decide +kernel), (by decide +kernel), (by decide +kernel)⟩
set_option maxRecDepth 20000 in
theorem mp196 : MrP r196 := ⟨gm 1363 rfl rfl, (gm 81 (by decide +kernel) rfl), Or.inl (gm 1362 (by decide +kernel) rfl), (by decide +kernel), (by decide +kernel), (by decide +kernel), (by decide +kernel)⟩
set_option maxRecDepth 20000 in
theorem mp197 : MrP r197 := ⟨gm 1359 rfl rfl, (gm 81 (by decide +kernel) rfl), Or.inl (gm 1357 (by decide +kernel) rfl), (by decide +kernel), (by decide +kernel), (by decide +kernel), (by decide +kernel)⟩
set_option maxRecDepth 20000 in
theorem mp198 : MrP r198 := ⟨gm 1382 rfl rfl, (gm 81 (by decide +kernel) rfl), Or.inl (gm 1381 (by decide +kernel) rfl), (by decide +kernel), (by decide +kernel), (by decide +kernel), (by decide +kernel)⟩
set_option maxRecDepth 20000 in
theorem mp199 : MrP r199 := ⟨gm 1390 rfl rfl, (gm 81 (by decide +kernel) rfl), Or.inl (gm 1389 (by decide +kernel) rfl), (by decide +kernel), (by decide +kernel), (by decide +kernel), (by decide +kernel)⟩
set_option maxRecDepth 20000 in
theorem mp200 : MrP r200 := ⟨gm 1378 rfl rfl, (gm 81 (by decide +kernel) rfl), Or.inl (gm 1377 (by decide +kernel) rfl), (by decide +kernel), (by decide +kernel), (by decide +kernel), (by decide +kernel)⟩
set_option maxRecDepth 20000 in
theorem mp201 : MrP r201 := ⟨gm 1374 rfl rfl, (gm 81 (by decide +kernel) rfl), Or.inr (gm 1373 (by decide +kernel) rfl), (by decide +kernel), (by decide +kernel), (by decide +kernel), (by decide +kernel)⟩
set_option maxRecDepth 20000 in
theorem mp202 : MrP r202 := ⟨gm 1371 rfl rfl, (gm 81 (by decide +kernel) rfl), Or.inl (gm 1370 (by decide +kernel) rfl), (by decide +kernel), (by decide +kernel), (by decide +kernel), (by decide +kernel)⟩
set_option maxRecDepth 20000 in
theorem mp203 : MrP r203 := ⟨gm 1367 rfl rfl, (gm 81 (by decide +kernel) rfl), Or.inl (gm 1365 (by decide +kernel) rfl), (by decide +kernel), (by decide +kernel), (by decide +kernel), (by decide +kernel)⟩
set_option maxRecDepth 20000 in
theorem mp204 : MrP r204 := ⟨gm 1394 rfl rfl, (gm 81 (by decide +kernel) rfl), Or.inl (gm 1392 (by decide +kernel) rfl), (by decide +kernel), (by decide +kernel), (by decide +kernel), (by decide +kernel)⟩
set_option maxRecDepth 20000 in
theorem mp205 : MrP r205 := ⟨gm 1398 rfl rfl, (gm 81 (by decide +kernel) rfl), Or.inl (gm 1396 (by decide +kernel) rfl), (by decide +kernel), (by decide +kernel), (by decide +kernel), (by decide +kernel)⟩
set_option maxRecDepth 20000 in
theorem mp206 : MrP r206 := ⟨gm 1136 rfl rfl, (gm 81 (by decide +kernel) rfl), Or.inr (gm 1135 (by decide +kernel) rfl), (by decide +kernel), (by decide +kernel), (by decide +kernel), (by decide +kernel)⟩
set_option maxRecDepth 20000 in
theorem mp207 : MrP r207 := ⟨gm 1403 rfl rfl, (gm 81 (by decide +kernel) rfl), Or.inl (gm 1401 (by decide +kernel) rfl), (by decide +kernel), (by decide +kernel), (by decide +kernel), (by decide +kernel)⟩
set_option maxRecDepth 20000 in
theorem mp208 : MrP r208 := ⟨gm 1407 rfl rfl, (gm 81 (by decide +kernel) rfl), Or.inl (gm 1405 (by decide +kernel) rfl), (by decide +kernel), (by decide +kernel), (by decide +kernel), (by decide +kernel)⟩
set_option maxRecDepth 20000 in
theorem mp209 : MrP r209 := ⟨gm 1415 rfl rfl, (gm 81 (by decide +kernel) rfl), Or.inl (gm 1414 (by decide +kernel) rfl), (by decide +kernel), (by decide +kernel), (by decide +kernel), (by decide +kernel)⟩
set_option maxRecDepth 20000 in
theorem mp210 : MrP r210 := ⟨gm 1411 rfl rfl, (gm 81 (by decide +kernel) rfl), Or.inl (gm 1409 (by decide +kernel) rfl), (by decide +kernel), (by decide +kernel), (by decide +kernel), (by decide +kernel)⟩
set_option maxRecDepth 20000 in
theorem mp211 : MrP r211 := ⟨gm 1419 rfl rfl, (gm 81 (by decide +kernel) rfl), Or.inl (gm 1417 (by decide +kernel) rfl), (by decide +kernel), (by decide +kernel), (by decide +kernel), (by decide +kernel)⟩
set_option maxRecDepth 20000 in
theorem mp212 : MrP r212 := ⟨gm 1152 rfl rfl, (gm 81 (by decide +kernel) rfl), Or.inr (gm 1151 (by decide +kernel) rfl), (by decide +kernel), (by decide +kernel), (by decide +kernel), (by decide +kernel)⟩
set_option maxRecDepth 20000 in
theorem mp213 : MrP r213 := ⟨gm 1427 rfl rfl, (gm 81 (by decide +kernel) rfl), Or.inl (gm 1425 (by decide +kernel) rfl), (by decide +kernel), (by decide +kernel), (by decide +kernel), (by decide +kernel)⟩
set_option maxRecDepth 20000 in
theorem mp214 : MrP r214 := ⟨gm 1435 rfl rfl, (gm 81 (by decide +kernel) rfl), Or.inl (gm 1434 (by decide +kernel) rfl), (by decide +kernel), (by decide +kernel), (by decide +kernel), (by decide +kernel)⟩
set_option maxRecDepth 20000 in
theorem mp215 : MrP r215 := ⟨gm 1431 rfl rfl, (gm 81 (by decide +kernel) rfl), Or.inl (gm 1429 (by decide +kernel) rfl), (by decide +kernel), (by decide +kernel), (by decide +kernel), (by decide +kernel)⟩
set_option maxRecDepth 20000 in
theorem mp216 : MrP r216 := ⟨gm 1439 rfl rfl, (gm 81 (by decide +kernel) rfl), Or.inl (gm 1437 (by decide +kernel) rfl), (by decide +kernel), (by decide +kernel), (by decide +kernel), (by decide +kernel)⟩
set_option maxRecDepth 20000 in
theorem mp217 : MrP r217 := ⟨gm 1443 rfl rfl, (gm 81 (by decide +kernel) rfl), Or.inl (gm 1441 (by decide +kernel) rfl), (by decide +kernel), (by decide +kernel), (by decide +kernel), (by decide +kernel)⟩
set_option maxRecDepth 20000 in
theorem mp218 : MrP r218 := ⟨gm 1447 rfl rfl, (gm 81 (by decide +kernel) rfl), Or.inl (gm 1445 (by decide +kernel) rfl), (by decide +kernel), (by decide +kernel), (by decide +kernel), (by decide +kernel)⟩
set_option maxRecDepth 20000 in
theorem mp219 : MrP r219 := ⟨gm 1451 rfl rfl, (gm 81 (by decide +kernel) rfl), Or.inl (gm 1449 (by decide +kernel) rfl), (by decide +kernel), (by decide +kernel), (by decide +kernel), (by decide +kernel)⟩
set_option maxRecDepth 20000 in
theorem mp220 : MrP r220 := ⟨gm 1455 rfl rfl, (gm 81 (by decide +kernel) rfl), Or.inl (gm 1453 (by decide +kernel) rfl), (by decide +kernel), (by decide +kernel), (by decide +kernel), (by decide +kernel)⟩
