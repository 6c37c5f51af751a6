set_option maxRecDepth 100000 in
def fOf (i : Nat) : Nat := if i < 1000 then (if i < 237 then (if i < 123 then (if i < 66 then (if i < 39 then (if i < 22 then (if i < 16 then (if i < 13 then (if i = 7 then 0 else 9999) else (if i = 13 then 3 else 9999)) else (if i < 19 then (if i = 16 then 4 else 9999) else (if i = 19 then 5 else 9999))) else (if i < 29 then (if i < 25 then (if i = 22 then 6 else 9999) else (if i = 25 then 7 else 9999)) else (if i < 32 then (if i = 29 then 8 else 9999) else (if i < 35 then (if i = 32 then 9 else 9999) else (if i = 35 then 10 else 9999))))) else (if i < 51 then (if i < 45 then (if i < 42 then (if i = 39 then 11 else 9999) else (if i = 42 then 19 else 9999)) else (if i < 48 then (if i = 45 then 20 else 9999) else (if i = 48 then 21 else 9999))) else (if i < 57 then (if i < 54 then (if i = 51 then 22 else 9999) else (if i = 54 then 23 else 9999)) else (if i < 60 then (if i = 57 then 24 else 9999) else (if i < 63 then (if i = 60 then 25 else 9999) else (if i = 63 then 26 else 9999)))))) else (if i < 93 then (if i < 78 then (if i < 72 then (if i < 69 then (if i = 66 then 27 else 9999) else (if i = 69 then 28 else 9999)) else (if i < 75 then (if i = 72 then 30 else 9999) else (if i = 75 then 37 else 9999))) else (if i < 84 then (if i < 81 then (if i = 78 then 38 else 9999) else (if i = 81 then 39 else 9999)) else (if i < 87 then (if i = 84 then 40 else 9999) else (if i < 90 then (if i = 87 then 41 else 9999) else (if i = 90 then 43 else 9999))))) else (if i < 108 then (if i < 99 then (if i < 96 then (if i = 93 then 44 else 9999) else (if i = 96 then 45 else 9999)) else (if i < 102 then (if i = 99 then 46 else 9999) else (if i < 105 then (if i = 102 then 47 else 9999) else (if i = 105 then 48 else 9999)))) else (if i < 114 then (if i < 111 then (if i = 108 then 50 else 9999) else (if i = 111 then 51 else 9999)) else (if i < 117 then (if i = 114 then 52 else 9999) else (if i < 120 then (if i = 117 then 53 else 9999) else (if i = 120 then 54 else 9999))))))) else (if i < 180 then (if i < 150 then (if i < 135 then (if i < 129 then (if i < 126 then (if i = 123 then 55 else 9999) else (if i = 126 then 56 else 9999)) else (if i < 132 then (if i = 129 then 57 else 9999) else (if i = 132 then 58 else 9999))) else (if i < 141 then (if i < 138 then (if i = 135 then 59 else 9999) else (if i = 138 then 60 else 9999)) else (if i < 144 then (if i = 141 then 61 else 9999) else (if i < 147 then (if i = 144 then 63 else 9999) else (if i = 147 then 64 else 9999))))) else (if i < 165 then (if i < 156 then (if i < 153 then (if i = 150 then 65 else 9999) else (if i = 153 then 70 else 9999)) else (if i < 159 then (if i = 156 then 71 else 9999) else (if i < 162 then (if i = 159 then 72 else 9999) else (if i = 162 then 73 else 9999)))) else (if i < 171 then (if i < 168 then (if i = 165 then 75 else 9999) else (if i = 168 then 76 else 9999)) else (if i < 174 then (if i = 171 then 77 else 9999) else (if i < 177 then (if i = 174 then 78 else 9999) else (if i = 177 then 79 else 9999)))))) else (if i < 207 then (if i < 192 then (if i < 186 then (if i < 183 then (if i = 180 then 80 else 9999) else (if i = 183 then 81 else 9999)) else (if i < 189 then (if i = 186 then 82 else 9999) else (if i = 189 then 83 else 9999))) else (if i < 198 then (if i < 195 then (if i = 192 then 84 else 9999) else (if i = 195 then 85 else 9999)) else (if i < 201 then (if i = 198 then 86 else 9999) else (if i < 204 then (if i = 201 then 87 else 9999) else (if i = 204 then 88 else 9999))))) else (if i < 222 then (if i < 213 then (if i < 210 then (if i = 207 then 90 else 9999) else (if i = 210 then 95 else 9999)) else (if i < 216 then (if i = 213 then 96 else 9999) else (if i < 219 then (if i = 216 then 97 else 9999) else (if i = 219 then 98 else 9999)))) else (if i < 228 then (if i < 225 then (if i = 222 then 99 else 9999) else (if i = 225 then 101 else 9999)) else (if i < 231 then (if i = 228 then 102 else 9999) else (if i < 234 then (if i = 231 then 104 else 9999) else (if i = 234 then 105 else 9999)))))))) else (if i < 470 then (if i < 292 then (if i < 265 then (if i < 249 then (if i < 243 then (if i < 240 then (if i = 237 then 106 else 9999) else (if i = 240 then 107 else 9999)) else (if i < 246 then (if i = 243 then 108 else 9999) else (if i = 246 then 109 else 9999))) else (if i < 255 then (if i < 252 then (if i = 249 then 110 else 9999) else (if i = 252 then 111 else 9999)) else (if i < 258 then (if i = 255 then 118 else 9999) else (if i < 262 then (if i = 258 then 120 else 9999) else (if i = 262 then 122 else 9999))))) else (if i < 277 then (if i < 271 then (if i < 268 then (if i = 265 then 124 else 9999) else (if i = 268 then 125 else 9999)) else (if i < 274 then (if i = 271 then 126 else 9999) else (if i = 274 then 127 else 9999))) else (if i < 283 then (if i < 280 then (if i = 277 then 130 else 9999) else (if i = 280 then 131 else 9999)) else (if i < 286 then (if i = 283 then 132 else 9999) else (if i < 289 then (if i = 286 then 134 else 9999) else (if i = 289 then 135 else 9999)))))) else (if i < 323 then (if i < 304 then (if i < 298 then (if i < 295 then (if i = 292 then 136 else 9999) else (if i = 295 then 137 else 9999)) else (if i < 301 then (if i = 298 then 138 else 9999) else (if i = 301 then 139 else 9999))) else (if i < 310 then (if i < 307 then (if i = 304 then 140 else 9999) else (if i = 307 then 149 else 9999)) else (if i < 317 then (if i = 310 then 1 else 9999) else (if i < 320 then (if i = 317 then 12 else 9999) else (if i = 320 then 13 else 9999))))) else (if i < 433 then (if i < 410 then (if i < 407 then (if i = 323 then 2 else 9999) else (if i = 407 then 15 else 9999)) else (if i < 413 then (if i = 410 then 16 else 9999) else (if i < 430 then (if i = 413 then 14 else 9999) else (if i = 430 then 17 else 9999)))) else (if i < 443 then (if i < 440 then (if i = 433 then 18 else 9999) else (if i = 440 then 29 else 9999)) else (if i < 450 then (if i = 443 then 31 else 9999) else (if i < 454 then (if i = 450 then 34 else 9999) else (if i = 454 then 35 else 9999))))))) else (if i < 815 then (if i < 656 then (if i < 516 then (if i < 510 then (if i < 473 then (if i = 470 then 33 else 9999) else (if i = 473 then 32 else 9999)) else (if i < 513 then (if i = 510 then 49 else 9999) else (if i = 513 then 62 else 9999))) else (if i < 634 then (if i < 519 then (if i = 516 then 36 else 9999) else (if i = 519 then 42 else 9999)) else (if i < 637 then (if i = 634 then 66 else 9999) else (if i < 640 then (if i = 637 then 67 else 9999) else (if i = 640 then 89 else 9999))))) else (if i < 799 then (if i < 675 then (if i < 659 then (if i = 656 then 69 else 9999) else (if i = 659 then 74 else 9999)) else (if i < 790 then (if i = 675 then 68 else 9999) else (if i < 796 then (if i = 790 then 91 else 9999) else (if i = 796 then 112 else 9999)))) else (if i < 806 then (if i < 802 then (if i = 799 then 113 else 9999) else (if i = 802 then 93 else 9999)) else (if i < 809 then (if i = 806 then 94 else 9999) else (if i < 812 then (if i = 809 then 114 else 9999) else (if i = 812 then 103 else 9999)))))) else (if i < 904 then (if i < 853 then (if i < 830 then (if i < 818 then (if i = 815 then 100 else 9999) else (if i = 818 then 117 else 9999)) else (if i < 833 then (if i = 830 then 115 else 9999) else (if i = 833 then 92 else 9999))) else (if i < 878 then (if i < 875 then (if i = 853 then 116 else 9999) else (if i = 875 then 119 else 9999)) else (if i < 890 then (if i = 878 then 121 else 9999) else (if i < 901 then (if i = 890 then 123 else 9999) else (if i = 901 then 128 else 9999))))) else (if i < 919 then (if i < 910 then (if i < 907 then (if i = 904 then 144 else 9999) else (if i = 907 then 145 else 9999)) else (if i < 913 then (if i = 910 then 142 else 9999) else (if i < 916 then (if i = 913 then 129 else 9999) else (if i = 916 then 133 else 9999)))) else (if i < 937 then (if i < 925 then (if i = 919 then 141 else 9999) else (if i = 925 then 143 else 9999)) else (if i < 940 then (if i = 937 then 146 else 9999) else (if i < 943 then (if i = 940 then 147 else 9999) else (if i = 943 then 148 else 9999))))))))) else 9999
set_option maxRecDepth 100000 in
def mOf (i : Nat) : Nat := if i < 1000 then (if i < 672 then (if i < 538 then (if i < 463 then (if i < 349 then (if i < 337 then (if i < 330 then (if i < 326 then (if i = 313 then 1 else 9999) else (if i = 326 then 3 else 9999)) else (if i < 334 then (if i = 330 then 4 else 9999) else (if i = 334 then 7 else 9999))) else (if i < 343 then (if i < 340 then (if i = 337 then 5 else 9999) else (if i = 340 then 9 else 9999)) else (if i < 346 then (if i = 343 then 10 else 9999) else (if i = 346 then 11 else 9999)))) else (if i < 427 then (if i < 420 then (if i < 416 then (if i = 349 then 8 else 9999) else (if i = 416 then 12 else 9999)) else (if i < 423 then (if i = 420 then 14 else 9999) else (if i = 423 then 17 else 9999))) else (if i < 446 then (if i < 436 then (if i = 427 then 13 else 9999) else (if i = 436 then 20 else 9999)) else (if i < 457 then (if i = 446 then 29 else 9999) else (if i < 460 then (if i = 457 then 34 else 9999) else (if i = 460 then 30 else 9999)))))) else (if i < 498 then (if i < 482 then (if i < 476 then (if i < 466 then (if i = 463 then 15 else 9999) else (if i = 466 then 21 else 9999)) else (if i < 479 then (if i = 476 then 26 else 9999) else (if i = 479 then 19 else 9999))) else (if i < 489 then (if i < 486 then (if i = 482 then 25 else 9999) else (if i = 486 then 28 else 9999)) else (if i < 492 then (if i = 489 then 23 else 9999) else (if i < 495 then (if i = 492 then 18 else 9999) else (if i = 495 then 24 else 9999))))) else (if i < 522 then (if i < 504 then (if i < 501 then (if i = 498 then 31 else 9999) else (if i = 501 then 22 else 9999)) else (if i < 507 then (if i = 504 then 32 else 9999) else (if i = 507 then 33 else 9999))) else (if i < 529 then (if i < 525 then (if i = 522 then 38 else 9999) else (if i = 525 then 35 else 9999)) else (if i < 532 then (if i = 529 then 39 else 9999) else (if i < 535 then (if i = 532 then 36 else 9999) else (if i = 535 then 44 else 9999))))))) else (if i < 594 then (if i < 566 then (if i < 551 then (if i < 545 then (if i < 542 then (if i = 538 then 40 else 9999) else (if i = 542 then 43 else 9999)) else (if i < 548 then (if i = 545 then 67 else 9999) else (if i = 548 then 46 else 9999))) else (if i < 557 then (if i < 554 then (if i = 551 then 47 else 9999) else (if i = 554 then 49 else 9999)) else (if i < 560 then (if i = 557 then 60 else 9999) else (if i < 563 then (if i = 560 then 59 else 9999) else (if i = 563 then 45 else 9999))))) else (if i < 579 then (if i < 573 then (if i < 570 then (if i = 566 then 41 else 9999) else (if i = 570 then 48 else 9999)) else (if i < 576 then (if i = 573 then 27 else 9999) else (if i = 576 then 16 else 9999))) else (if i < 585 then (if i < 582 then (if i = 579 then 50 else 9999) else (if i = 582 then 53 else 9999)) else (if i < 588 then (if i = 585 then 54 else 9999) else (if i < 591 then (if i = 588 then 55 else 9999) else (if i = 591 then 57 else 9999)))))) else (if i < 622 then (if i < 606 then (if i < 600 then (if i < 597 then (if i = 594 then 58 else 9999) else (if i = 597 then 62 else 9999)) else (if i < 603 then (if i = 600 then 65 else 9999) else (if i = 603 then 66 else 9999))) else (if i < 612 then (if i < 609 then (if i = 606 then 51 else 9999) else (if i = 609 then 69 else 9999)) else (if i < 615 then (if i = 612 then 52 else 9999) else (if i < 618 then (if i = 615 then 56 else 9999) else (if i = 618 then 42 else 9999))))) else (if i < 649 then (if i < 628 then (if i < 625 then (if i = 622 then 61 else 9999) else (if i = 625 then 64 else 9999)) else (if i < 631 then (if i = 628 then 63 else 9999) else (if i = 631 then 68 else 9999))) else (if i < 662 then (if i < 652 then (if i = 649 then 73 else 9999) else (if i = 652 then 74 else 9999)) else (if i < 666 then (if i = 662 then 77 else 9999) else (if i < 669 then (if i = 666 then 79 else 9999) else (if i = 669 then 72 else 9999)))))))) else (if i < 821 then (if i < 730 then (if i < 703 then (if i < 687 then (if i < 681 then (if i < 678 then (if i = 672 then 70 else 9999) else (if i = 678 then 87 else 9999)) else (if i < 684 then (if i = 681 then 71 else 9999) else (if i = 684 then 88 else 9999))) else (if i < 697 then (if i < 690 then (if i = 687 then 105 else 9999) else (if i = 690 then 113 else 9999)) else (if i < 700 then (if i = 697 then 86 else 9999) else (if i = 700 then 84 else 9999)))) else (if i < 715 then (if i < 709 then (if i < 706 then (if i = 703 then 83 else 9999) else (if i = 706 then 89 else 9999)) else (if i < 712 then (if i = 709 then 78 else 9999) else (if i = 712 then 90 else 9999))) else (if i < 721 then (if i < 718 then (if i = 715 then 91 else 9999) else (if i = 718 then 92 else 9999)) else (if i < 724 then (if i = 721 then 95 else 9999) else (if i < 727 then (if i = 724 then 80 else 9999) else (if i = 727 then 98 else 9999)))))) else (if i < 766 then (if i < 745 then (if i < 736 then (if i < 733 then (if i = 730 then 100 else 9999) else (if i = 733 then 104 else 9999)) else (if i < 741 then (if i = 736 then 81 else 9999) else (if i = 741 then 76 else 9999))) else (if i < 752 then (if i < 748 then (if i = 745 then 94 else 9999) else (if i = 748 then 96 else 9999)) else (if i < 755 then (if i = 752 then 93 else 9999) else (if i < 763 then (if i = 755 then 97 else 9999) else (if i = 763 then 99 else 9999))))) else (if i < 778 then (if i < 772 then (if i < 769 then (if i = 766 then 75 else 9999) else (if i = 769 then 103 else 9999)) else (if i < 775 then (if i = 772 then 101 else 9999) else (if i = 775 then 102 else 9999))) else (if i < 784 then (if i < 781 then (if i = 778 then 85 else 9999) else (if i = 781 then 107 else 9999)) else (if i < 787 then (if i = 784 then 106 else 9999) else (if i < 793 then (if i = 787 then 108 else 9999) else (if i = 793 then 109 else 9999))))))) else (if i < 896 then (if i < 859 then (if i < 840 then (if i < 827 then (if i < 824 then (if i = 821 then 114 else 9999) else (if i = 824 then 117 else 9999)) else (if i < 836 then (if i = 827 then 121 else 9999) else (if i = 836 then 112 else 9999))) else (if i < 847 then (if i < 844 then (if i = 840 then 111 else 9999) else (if i = 844 then 115 else 9999)) else (if i < 850 then (if i = 847 then 116 else 9999) else (if i < 856 then (if i = 850 then 118 else 9999) else (if i = 856 then 110 else 9999))))) else (if i < 872 then (if i < 866 then (if i < 863 then (if i = 859 then 119 else 9999) else (if i = 863 then 120 else 9999)) else (if i < 869 then (if i = 866 then 122 else 9999) else (if i = 869 then 6 else 9999))) else (if i < 884 then (if i < 881 then (if i = 872 then 37 else 9999) else (if i = 881 then 82 else 9999)) else (if i < 887 then (if i = 884 then 125 else 9999) else (if i < 893 then (if i = 887 then 127 else 9999) else (if i = 893 then 129 else 9999)))))) else (if i < 958 then (if i < 934 then (if i < 928 then (if i < 922 then (if i = 896 then 134 else 9999) else (if i = 922 then 148 else 9999)) else (if i < 931 then (if i = 928 then 144 else 9999) else (if i = 931 then 146 else 9999))) else (if i < 949 then (if i < 946 then (if i = 934 then 142 else 9999) else (if i = 946 then 145 else 9999)) else (if i < 952 then (if i = 949 then 150 else 9999) else (if i < 955 then (if i = 952 then 152 else 9999) else (if i = 955 then 143 else 9999))))) else (if i < 971 then (if i < 965 then (if i < 962 then (if i = 958 then 153 else 9999) else (if i = 962 then 154 else 9999)) else (if i < 968 then (if i = 965 then 157 else 9999) else (if i = 968 then 149 else 9999))) else (if i < 977 then (if i < 974 then (if i = 971 then 155 else 9999) else (if i = 974 then 156 else 9999)) else (if i < 981 then (if i = 977 then 159 else 9999) else (if i < 984 then (if i = 981 then 147 else 9999) else (if i = 984 then 158 else 9999))))))))) else 9999
set_option maxRecDepth 100000 in
theorem fOf_ok0 : ∀ i, i < 1000 → fOf i ≠ 9999 → (i, fOf i) ∈ flk := by decide +kernel
set_option maxRecDepth 100000 in
theorem mOf_ok0 : ∀ i, i < 1000 → mOf i ≠ 9999 → (i, mOf i) ∈ mlk := by decide +kernel
theorem fOf_ok {i k : Nat} (h : fOf i = k) (hk : k < 150) : (i, k) ∈ flk := by
  subst h
  by_cases hi : i < 1000
  · exact fOf_ok0 i hi (by omega)
  · unfold fOf at hk
    rw [if_neg hi] at hk
    omega
theorem mOf_ok {i k : Nat} (h : mOf i = k) (hk : k < 9999) : (i, k) ∈ mlk := by
  subst h
  by_cases hi : i < 1000
  · exact mOf_ok0 i hi (by omega)
  · unfold mOf at hk
    rw [if_neg hi] at hk
    omega
def rok3 (nL : Nat) (ret : Option FieldType) (x : RI) (pc : Nat) : Bool :=
  match x.1 with
  | .getfield i => x.2.1 == 3 && Nat.beq (fOf i) x.2.2.2.1 && decide ((kd x.2.2.2.1 : Int) = x.2.2.1) && decide (x.2.2.2.1 < 150)
  | .putfield i => x.2.1 == 3 && Nat.beq (fOf i) x.2.2.2.1 && decide ((kd x.2.2.2.1 : Int) = x.2.2.1) && decide (x.2.2.2.1 < 150)
  | .invokevirtual i => x.2.1 == 3 && Nat.beq (mOf i) x.2.2.2.1 && decide (x.2.2.2.1 < 9999) && (match mtab[x.2.2.2.1]? with
    | some r => decide ((r.2.2.2.2 : Int) = x.2.2.1)
    | none => false)
  | _ => rok2 nL ret x pc
theorem rok3_ok {nL : Nat} {ret : Option FieldType} {x : RI} {pc : Nat} (h : rok3 nL ret x pc = true) : rok2 nL ret x pc = true := by
  obtain ⟨i, len, a, b, cs⟩ := x
  cases i with
  | getfield i =>
    dsimp only [rok3, rok2] at h ⊢
    simp only [Bool.and_eq_true, decide_eq_true_eq] at h ⊢
    exact ⟨⟨⟨h.1.1.1, fOf_ok (Nat.eq_of_beq_eq_true h.1.1.2) h.2⟩, h.1.2⟩, h.2⟩
  | putfield i =>
    dsimp only [rok3, rok2] at h ⊢
    simp only [Bool.and_eq_true, decide_eq_true_eq] at h ⊢
    exact ⟨⟨⟨h.1.1.1, fOf_ok (Nat.eq_of_beq_eq_true h.1.1.2) h.2⟩, h.1.2⟩, h.2⟩
  | invokevirtual i =>
    dsimp only [rok3, rok2] at h ⊢
    simp only [Bool.and_eq_true, decide_eq_true_eq] at h ⊢
    exact ⟨⟨h.1.1.1, mOf_ok (Nat.eq_of_beq_eq_true h.1.1.2) h.1.2⟩, h.2⟩
  | _ => exact h
def dP (cc : ByteArray) : List RI → Nat → Prop
  | [], _ => True
  | x :: is, pc => decode cc pc = .ok (x.1, x.2.1) ∧ dP cc is (pc + x.2.1)
def mB (nL : Nat) (ret : Option FieldType) : List RI → Nat → Bool
  | [], _ => true
  | x :: is, pc => rok3 nL ret x pc && mB nL ret is (pc + x.2.1)
theorem rokB_of {cc : ByteArray} {nL : Nat} {ret : Option FieldType} (is : List RI) : ∀ pc : Nat, dP cc is pc → mB nL ret is pc = true → rokB cc nL ret is pc = true := by
  induction is with
  | nil => intro pc _ _; rfl
  | cons x is ih =>
    intro pc h1 h2
    unfold mB at h2
    rw [Bool.and_eq_true] at h2
    unfold rokB rok
    rw [Bool.and_eq_true, Bool.and_eq_true]
    exact ⟨⟨decide_eq_true h1.1, rok3_ok h2.1⟩, ih _ h1.2 h2.2⟩
abbrev RX : Type := List (Nat × Instr × Nat)
def wkI (sw : RX) : List RI → Nat → List Nat → Option (Nat × List Nat)
  | [], pc, bs => some (pc, bs)
  | x :: is, pc, bs => match (Nat.beq (mtI x.1 bs) x.2.1 && !Nat.beq x.2.1 0) || sw.any (fun q => Nat.beq q.1 pc && decide ((.ok q.2 : Except DecodeError (Instr × Nat)) = .ok (x.1, x.2.1))) with
    | true => wkI sw is (pc + x.2.1) (bs.drop x.2.1)
    | false => none
def wkM (sw : RX) : RB → Nat → List Nat → Bool
  | [], _, _ => true
  | b :: r, pc, bs => Nat.beq b.1 pc && (match wkI sw b.2 pc bs with
    | some q => wkM sw r q.1 q.2
    | none => false)
theorem wkI_ok {cc : ByteArray} {sw : RX} (hsw : ∀ q ∈ sw, decode cc q.1 = .ok (q.2.1, q.2.2)) (is : List RI) : ∀ (pc : Nat) (bs : List Nat) (q : Nat × List Nat), (∀ j, rdN cc (pc + j) = bs[j]?) → wkI sw is pc bs = some q → dP cc is pc ∧ ∀ j, rdN cc (q.1 + j) = q.2[j]? := by
  induction is with
  | nil =>
    intro pc bs q hb h
    have h := Option.some.inj h
    subst h
    exact ⟨trivial, hb⟩
  | cons x is ih =>
    intro pc bs q hb h
    unfold wkI at h
    split at h
    next hc =>
      have hd : decode cc pc = .ok (x.1, x.2.1) := by
        rw [Bool.or_eq_true, Bool.and_eq_true] at hc
        rcases hc with ⟨h1, h2⟩ | hc
        · have h1 := Nat.eq_of_beq_eq_true h1
          refine mtI_ok hb h1 ?_
          intro z
          rw [z] at h2
          cases h2
        · obtain ⟨q, h1, h2⟩ := List.any_eq_true.mp hc
          rw [Bool.and_eq_true] at h2
          have h3 := of_decide_eq_true h2.2
          have h4 := hsw q h1
          rw [Nat.eq_of_beq_eq_true h2.1] at h4
          exact h4.trans h3
      obtain ⟨g1, g2⟩ := ih (pc + x.2.1) (bs.drop x.2.1) q (fun j => by rw [Nat.add_assoc, hb, List.getElem?_drop]) h
      exact ⟨⟨hd, g1⟩, g2⟩
    next => cases h
theorem wkM_ok {cc : ByteArray} {sw : RX} (hsw : ∀ q ∈ sw, decode cc q.1 = .ok (q.2.1, q.2.2)) (B : RB) : ∀ (pc : Nat) (bs : List Nat), (∀ j, rdN cc (pc + j) = bs[j]?) → wkM sw B pc bs = true → ∀ b ∈ B, dP cc b.2 b.1 := by
  induction B with
  | nil => intro pc bs _ _ b hb; cases hb
  | cons b r ih =>
    intro pc bs hb h z hz
    unfold wkM at h
    rw [Bool.and_eq_true] at h
    obtain ⟨h1, h2⟩ := h
    have h1 := Nat.eq_of_beq_eq_true h1
    split at h2
    next q hq =>
      obtain ⟨g1, g2⟩ := wkI_ok hsw b.2 pc bs q hb hq
      rcases List.mem_cons.mp hz with rfl | hz
      · rw [h1]; exact g1
      · exact ih q.1 q.2 g2 h2 z hz
    next => cases h2
theorem rokM_of {cc : ByteArray} {nL : Nat} {ret : Option FieldType} {B : RB} (sw : RX) (hsw : ∀ q ∈ sw, decode cc q.1 = .ok (q.2.1, q.2.2)) (h1 : wkM sw B 0 (codeL cc) = true) (h2 : B.all (fun b => mB nL ret b.2 b.1) = true) : rokM cc nL ret B = true := by
  unfold rokM
  rw [List.all_eq_true]
  intro b hb
  exact rokB_of b.2 b.1 (wkM_ok hsw B 0 (codeL cc) (fun j => by rw [Nat.zero_add]; exact rdN_codeL) h1 b hb) (List.all_eq_true.mp h2 b hb)
