theorem dL_law__692 : decode cL_law_ 692 = .ok (.iconst 2, 1) := by decide +kernel
theorem dL_law__693 : decode cL_law_ 693 = .ok (.iadd, 1) := by decide +kernel
theorem dL_law__694 : decode cL_law_ 694 = .ok (.iaload, 1) := by decide +kernel
theorem dL_law__695 : decode cL_law_ 695 = .ok (.invokevirtual 146, 3) := by decide +kernel
theorem dL_law__698 : decode cL_law_ 698 = .ok (.istore 6, 2) := by decide +kernel
theorem dL_law__700 : decode cL_law_ 700 = .ok (.aload_n 2, 1) := by decide +kernel
theorem dL_law__701 : decode cL_law_ 701 = .ok (.invokevirtual 116, 3) := by decide +kernel
theorem dL_law__704 : decode cL_law_ 704 = .ok (.iload 5, 2) := by decide +kernel
theorem dL_law__706 : decode cL_law_ 706 = .ok (.if_icmp .eq 5, 3) := by decide +kernel
theorem dL_law__709 : decode cL_law_ 709 = .ok (.iconst 0, 1) := by decide +kernel
theorem dL_law__710 : decode cL_law_ 710 = .ok (.ireturn, 1) := by decide +kernel
theorem dL_law__711 : decode cL_law_ 711 = .ok (.iload 5, 2) := by decide +kernel
theorem dL_law__713 : decode cL_law_ 713 = .ok (.ifCond .ne 15, 3) := by decide +kernel
theorem dL_law__716 : decode cL_law_ 716 = .ok (.aload_n 3, 1) := by decide +kernel
theorem dL_law__717 : decode cL_law_ 717 = .ok (.iconst 0, 1) := by decide +kernel
theorem dL_law__718 : decode cL_law_ 718 = .ok (.laload, 1) := by decide +kernel
theorem dL_law__719 : decode cL_law_ 719 = .ok (.iload 6, 2) := by decide +kernel
theorem dL_law__721 : decode cL_law_ 721 = .ok (.i2l, 1) := by decide +kernel
theorem dL_law__722 : decode cL_law_ 722 = .ok (.lcmp, 1) := by decide +kernel
theorem dL_law__723 : decode cL_law_ 723 = .ok (.ifCond .eq 5, 3) := by decide +kernel
theorem dL_law__726 : decode cL_law_ 726 = .ok (.iconst 0, 1) := by decide +kernel
theorem dL_law__727 : decode cL_law_ 727 = .ok (.ireturn, 1) := by decide +kernel
theorem dL_law__728 : decode cL_law_ 728 = .ok (.goto 1519, 3) := by decide +kernel
theorem dL_law__731 : decode cL_law_ 731 = .ok (.aload_n 1, 1) := by decide +kernel
theorem dL_law__732 : decode cL_law_ 732 = .ok (.aload_n 0, 1) := by decide +kernel
theorem dL_law__733 : decode cL_law_ 733 = .ok (.iload 4, 2) := by decide +kernel
theorem dL_law__735 : decode cL_law_ 735 = .ok (.iconst 1, 1) := by decide +kernel
theorem dL_law__736 : decode cL_law_ 736 = .ok (.iadd, 1) := by decide +kernel
theorem dL_law__737 : decode cL_law_ 737 = .ok (.iaload, 1) := by decide +kernel
theorem dL_law__738 : decode cL_law_ 738 = .ok (.aload_n 0, 1) := by decide +kernel
theorem dL_law__739 : decode cL_law_ 739 = .ok (.iload 4, 2) := by decide +kernel
theorem dL_law__741 : decode cL_law_ 741 = .ok (.iconst 2, 1) := by decide +kernel
theorem dL_law__742 : decode cL_law_ 742 = .ok (.iadd, 1) := by decide +kernel
theorem dL_law__743 : decode cL_law_ 743 = .ok (.iaload, 1) := by decide +kernel
theorem dL_law__744 : decode cL_law_ 744 = .ok (.aload_n 3, 1) := by decide +kernel
theorem dL_law__745 : decode cL_law_ 745 = .ok (.invokestatic 147, 3) := by decide +kernel
theorem dL_law__748 : decode cL_law_ 748 = .ok (.istore 5, 2) := by decide +kernel
theorem dL_law__750 : decode cL_law_ 750 = .ok (.aload_n 2, 1) := by decide +kernel
theorem dL_law__751 : decode cL_law_ 751 = .ok (.aload_n 0, 1) := by decide +kernel
theorem dL_law__752 : decode cL_law_ 752 = .ok (.iload 4, 2) := by decide +kernel
theorem dL_law__754 : decode cL_law_ 754 = .ok (.iconst 1, 1) := by decide +kernel
theorem dL_law__755 : decode cL_law_ 755 = .ok (.iadd, 1) := by decide +kernel
theorem dL_law__756 : decode cL_law_ 756 = .ok (.iaload, 1) := by decide +kernel
theorem dL_law__757 : decode cL_law_ 757 = .ok (.aload_n 0, 1) := by decide +kernel
theorem dL_law__758 : decode cL_law_ 758 = .ok (.iload 4, 2) := by decide +kernel
theorem dL_law__760 : decode cL_law_ 760 = .ok (.iconst 2, 1) := by decide +kernel
theorem dL_law__761 : decode cL_law_ 761 = .ok (.iadd, 1) := by decide +kernel
theorem dL_law__762 : decode cL_law_ 762 = .ok (.iaload, 1) := by decide +kernel
theorem dL_law__763 : decode cL_law_ 763 = .ok (.invokevirtual 149, 3) := by decide +kernel
theorem dL_law__766 : decode cL_law_ 766 = .ok (.istore 6, 2) := by decide +kernel
theorem dL_law__768 : decode cL_law_ 768 = .ok (.aload_n 2, 1) := by decide +kernel
theorem dL_law__769 : decode cL_law_ 769 = .ok (.invokevirtual 116, 3) := by decide +kernel
theorem dL_law__772 : decode cL_law_ 772 = .ok (.iload 5, 2) := by decide +kernel
theorem dL_law__774 : decode cL_law_ 774 = .ok (.if_icmp .eq 5, 3) := by decide +kernel
theorem dL_law__777 : decode cL_law_ 777 = .ok (.iconst 0, 1) := by decide +kernel
theorem dL_law__778 : decode cL_law_ 778 = .ok (.ireturn, 1) := by decide +kernel
theorem dL_law__779 : decode cL_law_ 779 = .ok (.iload 5, 2) := by decide +kernel
theorem dL_law__781 : decode cL_law_ 781 = .ok (.ifCond .ne 15, 3) := by decide +kernel
theorem dL_law__784 : decode cL_law_ 784 = .ok (.aload_n 3, 1) := by decide +kernel
theorem dL_law__785 : decode cL_law_ 785 = .ok (.iconst 0, 1) := by decide +kernel
theorem dL_law__786 : decode cL_law_ 786 = .ok (.laload, 1) := by decide +kernel
theorem dL_law__787 : decode cL_law_ 787 = .ok (.iload 6, 2) := by decide +kernel
theorem dL_law__789 : decode cL_law_ 789 = .ok (.i2l, 1) := by decide +kernel
theorem dL_law__790 : decode cL_law_ 790 = .ok (.lcmp, 1) := by decide +kernel
theorem dL_law__791 : decode cL_law_ 791 = .ok (.ifCond .eq 5, 3) := by decide +kernel
theorem dL_law__794 : decode cL_law_ 794 = .ok (.iconst 0, 1) := by decide +kernel
theorem dL_law__795 : decode cL_law_ 795 = .ok (.ireturn, 1) := by decide +kernel
theorem dL_law__796 : decode cL_law_ 796 = .ok (.goto 1451, 3) := by decide +kernel
theorem dL_law__799 : decode cL_law_ 799 = .ok (.aload_n 1, 1) := by decide +kernel
theorem dL_law__800 : decode cL_law_ 800 = .ok (.aload_n 0, 1) := by decide +kernel
theorem dL_law__801 : decode cL_law_ 801 = .ok (.iload 4, 2) := by decide +kernel
theorem dL_law__803 : decode cL_law_ 803 = .ok (.iconst 1, 1) := by decide +kernel
theorem dL_law__804 : decode cL_law_ 804 = .ok (.iadd, 1) := by decide +kernel
theorem dL_law__805 : decode cL_law_ 805 = .ok (.iaload, 1) := by decide +kernel
theorem dL_law__806 : decode cL_law_ 806 = .ok (.aload_n 0, 1) := by decide +kernel
theorem dL_law__807 : decode cL_law_ 807 = .ok (.iload 4, 2) := by decide +kernel
theorem dL_law__809 : decode cL_law_ 809 = .ok (.iconst 2, 1) := by decide +kernel
theorem dL_law__810 : decode cL_law_ 810 = .ok (.iadd, 1) := by decide +kernel
theorem dL_law__811 : decode cL_law_ 811 = .ok (.iaload, 1) := by decide +kernel
theorem dL_law__812 : decode cL_law_ 812 = .ok (.aload_n 3, 1) := by decide +kernel
theorem dL_law__813 : decode cL_law_ 813 = .ok (.invokestatic 150, 3) := by decide +kernel
theorem dL_law__816 : decode cL_law_ 816 = .ok (.istore 5, 2) := by decide +kernel
theorem dL_law__818 : decode cL_law_ 818 = .ok (.aload_n 2, 1) := by decide +kernel
theorem dL_law__819 : decode cL_law_ 819 = .ok (.aload_n 0, 1) := by decide +kernel
theorem dL_law__820 : decode cL_law_ 820 = .ok (.iload 4, 2) := by decide +kernel
theorem dL_law__822 : decode cL_law_ 822 = .ok (.iconst 1, 1) := by decide +kernel
theorem dL_law__823 : decode cL_law_ 823 = .ok (.iadd, 1) := by decide +kernel
theorem dL_law__824 : decode cL_law_ 824 = .ok (.iaload, 1) := by decide +kernel
theorem dL_law__825 : decode cL_law_ 825 = .ok (.aload_n 0, 1) := by decide +kernel
theorem dL_law__826 : decode cL_law_ 826 = .ok (.iload 4, 2) := by decide +kernel
theorem dL_law__828 : decode cL_law_ 828 = .ok (.iconst 2, 1) := by decide +kernel
theorem dL_law__829 : decode cL_law_ 829 = .ok (.iadd, 1) := by decide +kernel
theorem dL_law__830 : decode cL_law_ 830 = .ok (.iaload, 1) := by decide +kernel
theorem dL_law__831 : decode cL_law_ 831 = .ok (.invokevirtual 152, 3) := by decide +kernel
theorem dL_law__834 : decode cL_law_ 834 = .ok (.istore 6, 2) := by decide +kernel
theorem dL_law__836 : decode cL_law_ 836 = .ok (.aload_n 2, 1) := by decide +kernel
theorem dL_law__837 : decode cL_law_ 837 = .ok (.invokevirtual 116, 3) := by decide +kernel
theorem dL_law__840 : decode cL_law_ 840 = .ok (.iload 5, 2) := by decide +kernel
theorem dL_law__842 : decode cL_law_ 842 = .ok (.if_icmp .eq 5, 3) := by decide +kernel
theorem dL_law__845 : decode cL_law_ 845 = .ok (.iconst 0, 1) := by decide +kernel
theorem dL_law__846 : decode cL_law_ 846 = .ok (.ireturn, 1) := by decide +kernel
theorem dL_law__847 : decode cL_law_ 847 = .ok (.iload 5, 2) := by decide +kernel
theorem dL_law__849 : decode cL_law_ 849 = .ok (.ifCond .ne 15, 3) := by decide +kernel
theorem dL_law__852 : decode cL_law_ 852 = .ok (.aload_n 3, 1) := by decide +kernel
theorem dL_law__853 : decode cL_law_ 853 = .ok (.iconst 0, 1) := by decide +kernel
theorem dL_law__854 : decode cL_law_ 854 = .ok (.laload, 1) := by decide +kernel
theorem dL_law__855 : decode cL_law_ 855 = .ok (.iload 6, 2) := by decide +kernel
theorem dL_law__857 : decode cL_law_ 857 = .ok (.i2l, 1) := by decide +kernel
theorem dL_law__858 : decode cL_law_ 858 = .ok (.lcmp, 1) := by decide +kernel
theorem dL_law__859 : decode cL_law_ 859 = .ok (.ifCond .eq 5, 3) := by decide +kernel
theorem dL_law__862 : decode cL_law_ 862 = .ok (.iconst 0, 1) := by decide +kernel
theorem dL_law__863 : decode cL_law_ 863 = .ok (.ireturn, 1) := by decide +kernel
theorem dL_law__864 : decode cL_law_ 864 = .ok (.goto 1383, 3) := by decide +kernel
theorem dL_law__867 : decode cL_law_ 867 = .ok (.aload_n 1, 1) := by decide +kernel
theorem dL_law__868 : decode cL_law_ 868 = .ok (.aload_n 0, 1) := by decide +kernel
theorem dL_law__869 : decode cL_law_ 869 = .ok (.iload 4, 2) := by decide +kernel
theorem dL_law__871 : decode cL_law_ 871 = .ok (.iconst 1, 1) := by decide +kernel
theorem dL_law__872 : decode cL_law_ 872 = .ok (.iadd, 1) := by decide +kernel
theorem dL_law__873 : decode cL_law_ 873 = .ok (.iaload, 1) := by decide +kernel
theorem dL_law__874 : decode cL_law_ 874 = .ok (.aload_n 0, 1) := by decide +kernel
theorem dL_law__875 : decode cL_law_ 875 = .ok (.iload 4, 2) := by decide +kernel
theorem dL_law__877 : decode cL_law_ 877 = .ok (.iconst 2, 1) := by decide +kernel
theorem dL_law__878 : decode cL_law_ 878 = .ok (.iadd, 1) := by decide +kernel
theorem dL_law__879 : decode cL_law_ 879 = .ok (.iaload, 1) := by decide +kernel
theorem dL_law__880 : decode cL_law_ 880 = .ok (.aload_n 3, 1) := by decide +kernel
theorem dL_law__881 : decode cL_law_ 881 = .ok (.invokestatic 153, 3) := by decide +kernel
theorem dL_law__884 : decode cL_law_ 884 = .ok (.istore 5, 2) := by decide +kernel
theorem dL_law__886 : decode cL_law_ 886 = .ok (.aload_n 2, 1) := by decide +kernel
theorem dL_law__887 : decode cL_law_ 887 = .ok (.aload_n 0, 1) := by decide +kernel
theorem dL_law__888 : decode cL_law_ 888 = .ok (.iload 4, 2) := by decide +kernel
theorem dL_law__890 : decode cL_law_ 890 = .ok (.iconst 1, 1) := by decide +kernel
theorem dL_law__891 : decode cL_law_ 891 = .ok (.iadd, 1) := by decide +kernel
theorem dL_law__892 : decode cL_law_ 892 = .ok (.iaload, 1) := by decide +kernel
theorem dL_law__893 : decode cL_law_ 893 = .ok (.aload_n 0, 1) := by decide +kernel
theorem dL_law__894 : decode cL_law_ 894 = .ok (.iload 4, 2) := by decide +kernel
theorem dL_law__896 : decode cL_law_ 896 = .ok (.iconst 2, 1) := by decide +kernel
theorem dL_law__897 : decode cL_law_ 897 = .ok (.iadd, 1) := by decide +kernel
theorem dL_law__898 : decode cL_law_ 898 = .ok (.iaload, 1) := by decide +kernel
theorem dL_law__899 : decode cL_law_ 899 = .ok (.invokevirtual 155, 3) := by decide +kernel
theorem dL_law__902 : decode cL_law_ 902 = .ok (.istore 6, 2) := by decide +kernel
theorem dL_law__904 : decode cL_law_ 904 = .ok (.aload_n 2, 1) := by decide +kernel
theorem dL_law__905 : decode cL_law_ 905 = .ok (.invokevirtual 116, 3) := by decide +kernel
theorem dL_law__908 : decode cL_law_ 908 = .ok (.iload 5, 2) := by decide +kernel
theorem dL_law__910 : decode cL_law_ 910 = .ok (.if_icmp .eq 5, 3) := by decide +kernel
theorem dL_law__913 : decode cL_law_ 913 = .ok (.iconst 0, 1) := by decide +kernel
theorem dL_law__914 : decode cL_law_ 914 = .ok (.ireturn, 1) := by decide +kernel
theorem dL_law__915 : decode cL_law_ 915 = .ok (.iload 5, 2) := by decide +kernel
theorem dL_law__917 : decode cL_law_ 917 = .ok (.ifCond .ne 15, 3) := by decide +kernel
theorem dL_law__920 : decode cL_law_ 920 = .ok (.aload_n 3, 1) := by decide +kernel
theorem dL_law__921 : decode cL_law_ 921 = .ok (.iconst 0, 1) := by decide +kernel
theorem dL_law__922 : decode cL_law_ 922 = .ok (.laload, 1) := by decide +kernel
theorem dL_law__923 : decode cL_law_ 923 = .ok (.iload 6, 2) := by decide +kernel
theorem dL_law__925 : decode cL_law_ 925 = .ok (.i2l, 1) := by decide +kernel
theorem dL_law__926 : decode cL_law_ 926 = .ok (.lcmp, 1) := by decide +kernel
theorem dL_law__927 : decode cL_law_ 927 = .ok (.ifCond .eq 5, 3) := by decide +kernel
theorem dL_law__930 : decode cL_law_ 930 = .ok (.iconst 0, 1) := by decide +kernel
theorem dL_law__931 : decode cL_law_ 931 = .ok (.ireturn, 1) := by decide +kernel
theorem dL_law__932 : decode cL_law_ 932 = .ok (.goto 1315, 3) := by decide +kernel
theorem dL_law__935 : decode cL_law_ 935 = .ok (.aload_n 1, 1) := by decide +kernel
theorem dL_law__936 : decode cL_law_ 936 = .ok (.aload_n 0, 1) := by decide +kernel
theorem dL_law__937 : decode cL_law_ 937 = .ok (.iload 4, 2) := by decide +kernel
theorem dL_law__939 : decode cL_law_ 939 = .ok (.iconst 1, 1) := by decide +kernel
theorem dL_law__940 : decode cL_law_ 940 = .ok (.iadd, 1) := by decide +kernel
theorem dL_law__941 : decode cL_law_ 941 = .ok (.iaload, 1) := by decide +kernel
theorem dL_law__942 : decode cL_law_ 942 = .ok (.aload_n 3, 1) := by decide +kernel
theorem dL_law__943 : decode cL_law_ 943 = .ok (.invokestatic 156, 3) := by decide +kernel
theorem dL_law__946 : decode cL_law_ 946 = .ok (.istore 5, 2) := by decide +kernel
theorem dL_law__948 : decode cL_law_ 948 = .ok (.aload_n 2, 1) := by decide +kernel
theorem dL_law__949 : decode cL_law_ 949 = .ok (.aload_n 0, 1) := by decide +kernel
theorem dL_law__950 : decode cL_law_ 950 = .ok (.iload 4, 2) := by decide +kernel
