/-! ===== the methods as functions, 8 ===== -/
theorem dX12_readLiteral_0 : decode cX12_readLiteral 0 = .ok (.aload_n 0, 1) := by decide +kernel
theorem dX12_readLiteral_1 : decode cX12_readLiteral 1 = .ok (.invokevirtual 187, 3) := by decide +kernel
theorem dX12_readLiteral_4 : decode cX12_readLiteral 4 = .ok (.istore_n 2, 1) := by decide +kernel
theorem dX12_readLiteral_5 : decode cX12_readLiteral 5 = .ok (.iload_n 2, 1) := by decide +kernel
theorem dX12_readLiteral_6 : decode cX12_readLiteral 6 = .ok (.ifCond .eq 16, 3) := by decide +kernel
theorem dX12_readLiteral_9 : decode cX12_readLiteral 9 = .ok (.iload_n 1, 1) := by decide +kernel
theorem dX12_readLiteral_10 : decode cX12_readLiteral 10 = .ok (.ifCond .eq 12, 3) := by decide +kernel
theorem dX12_readLiteral_13 : decode cX12_readLiteral 13 = .ok (.aload_n 0, 1) := by decide +kernel
theorem dX12_readLiteral_14 : decode cX12_readLiteral 14 = .ok (.iconst 5, 1) := by decide +kernel
theorem dX12_readLiteral_15 : decode cX12_readLiteral 15 = .ok (.aload_n 0, 1) := by decide +kernel
theorem dX12_readLiteral_16 : decode cX12_readLiteral 16 = .ok (.getfield 106, 3) := by decide +kernel
theorem dX12_readLiteral_19 : decode cX12_readLiteral 19 = .ok (.invokevirtual 218, 3) := by decide +kernel
theorem dX12_readLiteral_22 : decode cX12_readLiteral 22 = .ok (.iload_n 2, 1) := by decide +kernel
theorem dX12_readLiteral_23 : decode cX12_readLiteral 23 = .ok (.ifCond .eq 8, 3) := by decide +kernel
theorem dX12_readLiteral_26 : decode cX12_readLiteral 26 = .ok (.aload_n 0, 1) := by decide +kernel
theorem dX12_readLiteral_27 : decode cX12_readLiteral 27 = .ok (.iconst 1, 1) := by decide +kernel
theorem dX12_readLiteral_28 : decode cX12_readLiteral 28 = .ok (.invokevirtual 228, 3) := by decide +kernel
theorem dX12_readLiteral_31 : decode cX12_readLiteral 31 = .ok (.aload_n 0, 1) := by decide +kernel
theorem dX12_readLiteral_32 : decode cX12_readLiteral 32 = .ok (.getfield 212, 3) := by decide +kernel
theorem dX12_readLiteral_35 : decode cX12_readLiteral 35 = .ok (.ifCond .ne 14, 3) := by decide +kernel
theorem dX12_readLiteral_38 : decode cX12_readLiteral 38 = .ok (.aload_n 0, 1) := by decide +kernel
theorem dX12_readLiteral_39 : decode cX12_readLiteral 39 = .ok (.invokevirtual 270, 3) := by decide +kernel
theorem dX12_readLiteral_42 : decode cX12_readLiteral 42 = .ok (.ifCond .ne 7, 3) := by decide +kernel
theorem dX12_readLiteral_45 : decode cX12_readLiteral 45 = .ok (.aload_n 0, 1) := by decide +kernel
theorem dX12_readLiteral_46 : decode cX12_readLiteral 46 = .ok (.invokevirtual 225, 3) := by decide +kernel
theorem dX12_readLiteral_49 : decode cX12_readLiteral 49 = .ok (.aload_n 0, 1) := by decide +kernel
theorem dX12_readLiteral_50 : decode cX12_readLiteral 50 = .ok (.getfield 212, 3) := by decide +kernel
theorem dX12_readLiteral_53 : decode cX12_readLiteral 53 = .ok (.ifCond .ne 19, 3) := by decide +kernel
theorem dX12_readLiteral_56 : decode cX12_readLiteral 56 = .ok (.aload_n 0, 1) := by decide +kernel
theorem dX12_readLiteral_57 : decode cX12_readLiteral 57 = .ok (.invokevirtual 273, 3) := by decide +kernel
theorem dX12_readLiteral_60 : decode cX12_readLiteral 60 = .ok (.ifCond .ge 12, 3) := by decide +kernel
theorem dX12_readLiteral_63 : decode cX12_readLiteral 63 = .ok (.aload_n 0, 1) := by decide +kernel
theorem dX12_readLiteral_64 : decode cX12_readLiteral 64 = .ok (.iconst 3, 1) := by decide +kernel
theorem dX12_readLiteral_65 : decode cX12_readLiteral 65 = .ok (.aload_n 0, 1) := by decide +kernel
theorem dX12_readLiteral_66 : decode cX12_readLiteral 66 = .ok (.getfield 106, 3) := by decide +kernel
theorem dX12_readLiteral_69 : decode cX12_readLiteral 69 = .ok (.invokevirtual 218, 3) := by decide +kernel
theorem dX12_readLiteral_72 : decode cX12_readLiteral 72 = .ok (.iload_n 1, 1) := by decide +kernel
theorem dX12_readLiteral_73 : decode cX12_readLiteral 73 = .ok (.ifCond .eq 12, 3) := by decide +kernel
theorem dX12_readLiteral_76 : decode cX12_readLiteral 76 = .ok (.aload_n 0, 1) := by decide +kernel
theorem dX12_readLiteral_77 : decode cX12_readLiteral 77 = .ok (.iconst 5, 1) := by decide +kernel
theorem dX12_readLiteral_78 : decode cX12_readLiteral 78 = .ok (.aload_n 0, 1) := by decide +kernel
theorem dX12_readLiteral_79 : decode cX12_readLiteral 79 = .ok (.getfield 106, 3) := by decide +kernel
theorem dX12_readLiteral_82 : decode cX12_readLiteral 82 = .ok (.invokevirtual 218, 3) := by decide +kernel
theorem dX12_readLiteral_85 : decode cX12_readLiteral 85 = .ok (.aload_n 0, 1) := by decide +kernel
theorem dX12_readLiteral_86 : decode cX12_readLiteral 86 = .ok (.getfield 212, 3) := by decide +kernel
theorem dX12_readLiteral_89 : decode cX12_readLiteral 89 = .ok (.ifCond .le 7, 3) := by decide +kernel
theorem dX12_readLiteral_92 : decode cX12_readLiteral 92 = .ok (.iconst 0, 1) := by decide +kernel
theorem dX12_readLiteral_93 : decode cX12_readLiteral 93 = .ok (.goto 18, 3) := by decide +kernel
theorem dX12_readLiteral_96 : decode cX12_readLiteral 96 = .ok (.aload_n 0, 1) := by decide +kernel
theorem dX12_readLiteral_97 : decode cX12_readLiteral 97 = .ok (.invokevirtual 273, 3) := by decide +kernel
theorem dX12_readLiteral_100 : decode cX12_readLiteral 100 = .ok (.iload_n 2, 1) := by decide +kernel
theorem dX12_readLiteral_101 : decode cX12_readLiteral 101 = .ok (.ifCond .eq 8, 3) := by decide +kernel
theorem dX12_readLiteral_104 : decode cX12_readLiteral 104 = .ok (.bipush 6, 2) := by decide +kernel
theorem dX12_readLiteral_106 : decode cX12_readLiteral 106 = .ok (.goto 4, 3) := by decide +kernel
theorem dX12_readLiteral_109 : decode cX12_readLiteral 109 = .ok (.iconst 0, 1) := by decide +kernel
theorem dX12_readLiteral_110 : decode cX12_readLiteral 110 = .ok (.iadd, 1) := by decide +kernel
theorem dX12_readLiteral_111 : decode cX12_readLiteral 111 = .ok (.istore_n 3, 1) := by decide +kernel
theorem dX12_readLiteral_112 : decode cX12_readLiteral 112 = .ok (.aload_n 0, 1) := by decide +kernel
theorem dX12_readLiteral_113 : decode cX12_readLiteral 113 = .ok (.iconst 1, 1) := by decide +kernel
theorem dX12_readLiteral_114 : decode cX12_readLiteral 114 = .ok (.invokevirtual 228, 3) := by decide +kernel
theorem dX12_readLiteral_117 : decode cX12_readLiteral 117 = .ok (.iload_n 3, 1) := by decide +kernel
theorem dX12_readLiteral_118 : decode cX12_readLiteral 118 = .ok (.ireturn, 1) := by decide +kernel
def F_X12_readLiteral (w : Nat) (M : z_Mem) (a1 : Int32) : Option (Int32 × z_Mem) :=
  (F_X12_isNot w M).bind fun q1 =>
  if q1.1 = true then
  if a1 = (0 : Int32) then
  if q1.1 = true then
  (F_X12_must w q1.2 (1 : Int32)).bind fun q702 =>
  if (q702.2.1 137 12) = (0 : Int32) then
  (F_X12_isName w q702.2).bind fun q780 =>
  if q780.1 = true then
  if (q780.2.1 137 12) = (0 : Int32) then
  (F_X12_named w q780.2).bind fun q807 =>
  if (0 : Int32) ≤ q807.1 then
  if a1 = (0 : Int32) then
  if (q807.2.1 137 12) ≤ (0 : Int32) then
  (F_X12_named w q807.2).bind fun q812 =>
  if q1.1 = true then
  (F_X12_must w q812.2 (1 : Int32)).bind fun q817 =>
  some (q812.1 + (6 : Int32), q817.2)
  else
  (F_X12_must w q812.2 (1 : Int32)).bind fun q815 =>
  some (q812.1 + (0 : Int32), q815.2)
  else
  (F_X12_must w q807.2 (1 : Int32)).bind fun q819 =>
  some ((0 : Int32), q819.2)
  else
  (F_X12_fail w q807.2 (5 : Int32) (q807.2.1 137 15)).bind fun q821 =>
  if (q821.2.1 137 12) ≤ (0 : Int32) then
  (F_X12_named w q821.2).bind fun q824 =>
  if q1.1 = true then
  (F_X12_must w q824.2 (1 : Int32)).bind fun q829 =>
  some (q824.1 + (6 : Int32), q829.2)
  else
  (F_X12_must w q824.2 (1 : Int32)).bind fun q827 =>
  some (q824.1 + (0 : Int32), q827.2)
  else
  (F_X12_must w q821.2 (1 : Int32)).bind fun q831 =>
  some ((0 : Int32), q831.2)
  else
  (F_X12_fail w q807.2 (3 : Int32) (q807.2.1 137 15)).bind fun q833 =>
  if a1 = (0 : Int32) then
  if (q833.2.1 137 12) ≤ (0 : Int32) then
  (F_X12_named w q833.2).bind fun q837 =>
  if q1.1 = true then
  (F_X12_must w q837.2 (1 : Int32)).bind fun q842 =>
  some (q837.1 + (6 : Int32), q842.2)
  else
  (F_X12_must w q837.2 (1 : Int32)).bind fun q840 =>
  some (q837.1 + (0 : Int32), q840.2)
  else
  (F_X12_must w q833.2 (1 : Int32)).bind fun q844 =>
  some ((0 : Int32), q844.2)
  else
  (F_X12_fail w q833.2 (5 : Int32) (q833.2.1 137 15)).bind fun q846 =>
  if (q846.2.1 137 12) ≤ (0 : Int32) then
  (F_X12_named w q846.2).bind fun q849 =>
  if q1.1 = true then
  (F_X12_must w q849.2 (1 : Int32)).bind fun q854 =>
  some (q849.1 + (6 : Int32), q854.2)
  else
  (F_X12_must w q849.2 (1 : Int32)).bind fun q852 =>
  some (q849.1 + (0 : Int32), q852.2)
  else
  (F_X12_must w q846.2 (1 : Int32)).bind fun q856 =>
  some ((0 : Int32), q856.2)
  else
  if a1 = (0 : Int32) then
  if (q780.2.1 137 12) ≤ (0 : Int32) then
  (F_X12_named w q780.2).bind fun q786 =>
  if q1.1 = true then
  (F_X12_must w q786.2 (1 : Int32)).bind fun q791 =>
  some (q786.1 + (6 : Int32), q791.2)
  else
  (F_X12_must w q786.2 (1 : Int32)).bind fun q789 =>
  some (q786.1 + (0 : Int32), q789.2)
  else
  (F_X12_must w q780.2 (1 : Int32)).bind fun q793 =>
  some ((0 : Int32), q793.2)
  else
  (F_X12_fail w q780.2 (5 : Int32) (q780.2.1 137 15)).bind fun q795 =>
  if (q795.2.1 137 12) ≤ (0 : Int32) then
  (F_X12_named w q795.2).bind fun q798 =>
  if q1.1 = true then
  (F_X12_must w q798.2 (1 : Int32)).bind fun q803 =>
  some (q798.1 + (6 : Int32), q803.2)
  else
  (F_X12_must w q798.2 (1 : Int32)).bind fun q801 =>
  some (q798.1 + (0 : Int32), q801.2)
  else
  (F_X12_must w q795.2 (1 : Int32)).bind fun q805 =>
  some ((0 : Int32), q805.2)
  else
  (F_X12_amiss w q780.2).bind fun q858 =>
  if (q858.2.1 137 12) = (0 : Int32) then
  (F_X12_named w q858.2).bind fun q884 =>
  if (0 : Int32) ≤ q884.1 then
  if a1 = (0 : Int32) then
  if (q884.2.1 137 12) ≤ (0 : Int32) then
  (F_X12_named w q884.2).bind fun q889 =>
  if q1.1 = true then
  (F_X12_must w q889.2 (1 : Int32)).bind fun q894 =>
  some (q889.1 + (6 : Int32), q894.2)
  else
  (F_X12_must w q889.2 (1 : Int32)).bind fun q892 =>
  some (q889.1 + (0 : Int32), q892.2)
  else
  (F_X12_must w q884.2 (1 : Int32)).bind fun q896 =>
  some ((0 : Int32), q896.2)
  else
  (F_X12_fail w q884.2 (5 : Int32) (q884.2.1 137 15)).bind fun q898 =>
  if (q898.2.1 137 12) ≤ (0 : Int32) then
  (F_X12_named w q898.2).bind fun q901 =>
  if q1.1 = true then
  (F_X12_must w q901.2 (1 : Int32)).bind fun q906 =>
  some (q901.1 + (6 : Int32), q906.2)
  else
  (F_X12_must w q901.2 (1 : Int32)).bind fun q904 =>
  some (q901.1 + (0 : Int32), q904.2)
  else
  (F_X12_must w q898.2 (1 : Int32)).bind fun q908 =>
  some ((0 : Int32), q908.2)
  else
  (F_X12_fail w q884.2 (3 : Int32) (q884.2.1 137 15)).bind fun q910 =>
  if a1 = (0 : Int32) then
  if (q910.2.1 137 12) ≤ (0 : Int32) then
  (F_X12_named w q910.2).bind fun q914 =>
  if q1.1 = true then
  (F_X12_must w q914.2 (1 : Int32)).bind fun q919 =>
  some (q914.1 + (6 : Int32), q919.2)
  else
  (F_X12_must w q914.2 (1 : Int32)).bind fun q917 =>
  some (q914.1 + (0 : Int32), q917.2)
  else
  (F_X12_must w q910.2 (1 : Int32)).bind fun q921 =>
  some ((0 : Int32), q921.2)
  else
  (F_X12_fail w q910.2 (5 : Int32) (q910.2.1 137 15)).bind fun q923 =>
  if (q923.2.1 137 12) ≤ (0 : Int32) then
  (F_X12_named w q923.2).bind fun q926 =>
  if q1.1 = true then
  (F_X12_must w q926.2 (1 : Int32)).bind fun q931 =>
  some (q926.1 + (6 : Int32), q931.2)
  else
  (F_X12_must w q926.2 (1 : Int32)).bind fun q929 =>
  some (q926.1 + (0 : Int32), q929.2)
  else
  (F_X12_must w q923.2 (1 : Int32)).bind fun q933 =>
  some ((0 : Int32), q933.2)
  else
  if a1 = (0 : Int32) then
  if (q858.2.1 137 12) ≤ (0 : Int32) then
  (F_X12_named w q858.2).bind fun q863 =>
  if q1.1 = true then
  (F_X12_must w q863.2 (1 : Int32)).bind fun q868 =>
  some (q863.1 + (6 : Int32), q868.2)
  else
  (F_X12_must w q863.2 (1 : Int32)).bind fun q866 =>
  some (q863.1 + (0 : Int32), q866.2)
  else
  (F_X12_must w q858.2 (1 : Int32)).bind fun q870 =>
  some ((0 : Int32), q870.2)
  else
  (F_X12_fail w q858.2 (5 : Int32) (q858.2.1 137 15)).bind fun q872 =>
  if (q872.2.1 137 12) ≤ (0 : Int32) then
  (F_X12_named w q872.2).bind fun q875 =>
  if q1.1 = true then
  (F_X12_must w q875.2 (1 : Int32)).bind fun q880 =>
  some (q875.1 + (6 : Int32), q880.2)
  else
  (F_X12_must w q875.2 (1 : Int32)).bind fun q878 =>
  some (q875.1 + (0 : Int32), q878.2)
  else
  (F_X12_must w q872.2 (1 : Int32)).bind fun q882 =>
  some ((0 : Int32), q882.2)
  else
  if (q702.2.1 137 12) = (0 : Int32) then
  (F_X12_named w q702.2).bind fun q729 =>
  if (0 : Int32) ≤ q729.1 then
  if a1 = (0 : Int32) then
  if (q729.2.1 137 12) ≤ (0 : Int32) then
  (F_X12_named w q729.2).bind fun q734 =>
  if q1.1 = true then
  (F_X12_must w q734.2 (1 : Int32)).bind fun q739 =>
  some (q734.1 + (6 : Int32), q739.2)
  else
  (F_X12_must w q734.2 (1 : Int32)).bind fun q737 =>
  some (q734.1 + (0 : Int32), q737.2)
  else
  (F_X12_must w q729.2 (1 : Int32)).bind fun q741 =>
  some ((0 : Int32), q741.2)
  else
  (F_X12_fail w q729.2 (5 : Int32) (q729.2.1 137 15)).bind fun q743 =>
  if (q743.2.1 137 12) ≤ (0 : Int32) then
  (F_X12_named w q743.2).bind fun q746 =>
  if q1.1 = true then
  (F_X12_must w q746.2 (1 : Int32)).bind fun q751 =>
  some (q746.1 + (6 : Int32), q751.2)
  else
  (F_X12_must w q746.2 (1 : Int32)).bind fun q749 =>
  some (q746.1 + (0 : Int32), q749.2)
  else
  (F_X12_must w q743.2 (1 : Int32)).bind fun q753 =>
  some ((0 : Int32), q753.2)
  else
  (F_X12_fail w q729.2 (3 : Int32) (q729.2.1 137 15)).bind fun q755 =>
  if a1 = (0 : Int32) then
  if (q755.2.1 137 12) ≤ (0 : Int32) then
  (F_X12_named w q755.2).bind fun q759 =>
  if q1.1 = true then
  (F_X12_must w q759.2 (1 : Int32)).bind fun q764 =>
  some (q759.1 + (6 : Int32), q764.2)
  else
  (F_X12_must w q759.2 (1 : Int32)).bind fun q762 =>
  some (q759.1 + (0 : Int32), q762.2)
  else
  (F_X12_must w q755.2 (1 : Int32)).bind fun q766 =>
  some ((0 : Int32), q766.2)
  else
  (F_X12_fail w q755.2 (5 : Int32) (q755.2.1 137 15)).bind fun q768 =>
  if (q768.2.1 137 12) ≤ (0 : Int32) then
  (F_X12_named w q768.2).bind fun q771 =>
  if q1.1 = true then
  (F_X12_must w q771.2 (1 : Int32)).bind fun q776 =>
  some (q771.1 + (6 : Int32), q776.2)
  else
  (F_X12_must w q771.2 (1 : Int32)).bind fun q774 =>
  some (q771.1 + (0 : Int32), q774.2)
  else
  (F_X12_must w q768.2 (1 : Int32)).bind fun q778 =>
  some ((0 : Int32), q778.2)
  else
  if a1 = (0 : Int32) then
  if (q702.2.1 137 12) ≤ (0 : Int32) then
  (F_X12_named w q702.2).bind fun q708 =>
  if q1.1 = true then
  (F_X12_must w q708.2 (1 : Int32)).bind fun q713 =>
  some (q708.1 + (6 : Int32), q713.2)
  else
  (F_X12_must w q708.2 (1 : Int32)).bind fun q711 =>
  some (q708.1 + (0 : Int32), q711.2)
  else
  (F_X12_must w q702.2 (1 : Int32)).bind fun q715 =>
  some ((0 : Int32), q715.2)
  else
  (F_X12_fail w q702.2 (5 : Int32) (q702.2.1 137 15)).bind fun q717 =>
  if (q717.2.1 137 12) ≤ (0 : Int32) then
  (F_X12_named w q717.2).bind fun q720 =>
  if q1.1 = true then
  (F_X12_must w q720.2 (1 : Int32)).bind fun q725 =>
  some (q720.1 + (6 : Int32), q725.2)
  else
  (F_X12_must w q720.2 (1 : Int32)).bind fun q723 =>
  some (q720.1 + (0 : Int32), q723.2)
  else
  (F_X12_must w q717.2 (1 : Int32)).bind fun q727 =>
  some ((0 : Int32), q727.2)
  else
  if (q1.2.1 137 12) = (0 : Int32) then
  (F_X12_isName w q1.2).bind fun q547 =>
  if q547.1 = true then
  if (q547.2.1 137 12) = (0 : Int32) then
  (F_X12_named w q547.2).bind fun q574 =>
  if (0 : Int32) ≤ q574.1 then
  if a1 = (0 : Int32) then
  if (q574.2.1 137 12) ≤ (0 : Int32) then
  (F_X12_named w q574.2).bind fun q579 =>
  if q1.1 = true then
  (F_X12_must w q579.2 (1 : Int32)).bind fun q584 =>
  some (q579.1 + (6 : Int32), q584.2)
  else
  (F_X12_must w q579.2 (1 : Int32)).bind fun q582 =>
  some (q579.1 + (0 : Int32), q582.2)
  else
  (F_X12_must w q574.2 (1 : Int32)).bind fun q586 =>
  some ((0 : Int32), q586.2)
  else
  (F_X12_fail w q574.2 (5 : Int32) (q574.2.1 137 15)).bind fun q588 =>
  if (q588.2.1 137 12) ≤ (0 : Int32) then
  (F_X12_named w q588.2).bind fun q591 =>
  if q1.1 = true then
  (F_X12_must w q591.2 (1 : Int32)).bind fun q596 =>
  some (q591.1 + (6 : Int32), q596.2)
  else
  (F_X12_must w q591.2 (1 : Int32)).bind fun q594 =>
  some (q591.1 + (0 : Int32), q594.2)
  else
  (F_X12_must w q588.2 (1 : Int32)).bind fun q598 =>
  some ((0 : Int32), q598.2)
  else
  (F_X12_fail w q574.2 (3 : Int32) (q574.2.1 137 15)).bind fun q600 =>
  if a1 = (0 : Int32) then
  if (q600.2.1 137 12) ≤ (0 : Int32) then
  (F_X12_named w q600.2).bind fun q604 =>
  if q1.1 = true then
  (F_X12_must w q604.2 (1 : Int32)).bind fun q609 =>
  some (q604.1 + (6 : Int32), q609.2)
  else
  (F_X12_must w q604.2 (1 : Int32)).bind fun q607 =>
  some (q604.1 + (0 : Int32), q607.2)
  else
  (F_X12_must w q600.2 (1 : Int32)).bind fun q611 =>
  some ((0 : Int32), q611.2)
  else
  (F_X12_fail w q600.2 (5 : Int32) (q600.2.1 137 15)).bind fun q613 =>
  if (q613.2.1 137 12) ≤ (0 : Int32) then
  (F_X12_named w q613.2).bind fun q616 =>
  if q1.1 = true then
  (F_X12_must w q616.2 (1 : Int32)).bind fun q621 =>
  some (q616.1 + (6 : Int32), q621.2)
  else
  (F_X12_must w q616.2 (1 : Int32)).bind fun q619 =>
  some (q616.1 + (0 : Int32), q619.2)
  else
  (F_X12_must w q613.2 (1 : Int32)).bind fun q623 =>
  some ((0 : Int32), q623.2)
  else
  if a1 = (0 : Int32) then
  if (q547.2.1 137 12) ≤ (0 : Int32) then
  (F_X12_named w q547.2).bind fun q553 =>
  if q1.1 = true then
  (F_X12_must w q553.2 (1 : Int32)).bind fun q558 =>
  some (q553.1 + (6 : Int32), q558.2)
  else
  (F_X12_must w q553.2 (1 : Int32)).bind fun q556 =>
  some (q553.1 + (0 : Int32), q556.2)
  else
  (F_X12_must w q547.2 (1 : Int32)).bind fun q560 =>
  some ((0 : Int32), q560.2)
  else
  (F_X12_fail w q547.2 (5 : Int32) (q547.2.1 137 15)).bind fun q562 =>
  if (q562.2.1 137 12) ≤ (0 : Int32) then
  (F_X12_named w q562.2).bind fun q565 =>
  if q1.1 = true then
  (F_X12_must w q565.2 (1 : Int32)).bind fun q570 =>
  some (q565.1 + (6 : Int32), q570.2)
  else
  (F_X12_must w q565.2 (1 : Int32)).bind fun q568 =>
  some (q565.1 + (0 : Int32), q568.2)
  else
  (F_X12_must w q562.2 (1 : Int32)).bind fun q572 =>
  some ((0 : Int32), q572.2)
  else
  (F_X12_amiss w q547.2).bind fun q625 =>
  if (q625.2.1 137 12) = (0 : Int32) then
  (F_X12_named w q625.2).bind fun q651 =>
  if (0 : Int32) ≤ q651.1 then
  if a1 = (0 : Int32) then
  if (q651.2.1 137 12) ≤ (0 : Int32) then
  (F_X12_named w q651.2).bind fun q656 =>
  if q1.1 = true then
  (F_X12_must w q656.2 (1 : Int32)).bind fun q661 =>
  some (q656.1 + (6 : Int32), q661.2)
  else
  (F_X12_must w q656.2 (1 : Int32)).bind fun q659 =>
  some (q656.1 + (0 : Int32), q659.2)
  else
  (F_X12_must w q651.2 (1 : Int32)).bind fun q663 =>
  some ((0 : Int32), q663.2)
  else
  (F_X12_fail w q651.2 (5 : Int32) (q651.2.1 137 15)).bind fun q665 =>
  if (q665.2.1 137 12) ≤ (0 : Int32) then
  (F_X12_named w q665.2).bind fun q668 =>
  if q1.1 = true then
  (F_X12_must w q668.2 (1 : Int32)).bind fun q673 =>
  some (q668.1 + (6 : Int32), q673.2)
  else
  (F_X12_must w q668.2 (1 : Int32)).bind fun q671 =>
  some (q668.1 + (0 : Int32), q671.2)
  else
  (F_X12_must w q665.2 (1 : Int32)).bind fun q675 =>
  some ((0 : Int32), q675.2)
  else
  (F_X12_fail w q651.2 (3 : Int32) (q651.2.1 137 15)).bind fun q677 =>
  if a1 = (0 : Int32) then
  if (q677.2.1 137 12) ≤ (0 : Int32) then
  (F_X12_named w q677.2).bind fun q681 =>
  if q1.1 = true then
  (F_X12_must w q681.2 (1 : Int32)).bind fun q686 =>
  some (q681.1 + (6 : Int32), q686.2)
  else
  (F_X12_must w q681.2 (1 : Int32)).bind fun q684 =>
  some (q681.1 + (0 : Int32), q684.2)
  else
  (F_X12_must w q677.2 (1 : Int32)).bind fun q688 =>
  some ((0 : Int32), q688.2)
  else
  (F_X12_fail w q677.2 (5 : Int32) (q677.2.1 137 15)).bind fun q690 =>
  if (q690.2.1 137 12) ≤ (0 : Int32) then
  (F_X12_named w q690.2).bind fun q693 =>
  if q1.1 = true then
  (F_X12_must w q693.2 (1 : Int32)).bind fun q698 =>
  some (q693.1 + (6 : Int32), q698.2)
  else
  (F_X12_must w q693.2 (1 : Int32)).bind fun q696 =>
  some (q693.1 + (0 : Int32), q696.2)
  else
  (F_X12_must w q690.2 (1 : Int32)).bind fun q700 =>
  some ((0 : Int32), q700.2)
  else
  if a1 = (0 : Int32) then
  if (q625.2.1 137 12) ≤ (0 : Int32) then
  (F_X12_named w q625.2).bind fun q630 =>
  if q1.1 = true then
  (F_X12_must w q630.2 (1 : Int32)).bind fun q635 =>
  some (q630.1 + (6 : Int32), q635.2)
  else
  (F_X12_must w q630.2 (1 : Int32)).bind fun q633 =>
  some (q630.1 + (0 : Int32), q633.2)
  else
  (F_X12_must w q625.2 (1 : Int32)).bind fun q637 =>
  some ((0 : Int32), q637.2)
  else
  (F_X12_fail w q625.2 (5 : Int32) (q625.2.1 137 15)).bind fun q639 =>
  if (q639.2.1 137 12) ≤ (0 : Int32) then
  (F_X12_named w q639.2).bind fun q642 =>
  if q1.1 = true then
  (F_X12_must w q642.2 (1 : Int32)).bind fun q647 =>
  some (q642.1 + (6 : Int32), q647.2)
  else
  (F_X12_must w q642.2 (1 : Int32)).bind fun q645 =>
  some (q642.1 + (0 : Int32), q645.2)
  else
  (F_X12_must w q639.2 (1 : Int32)).bind fun q649 =>
  some ((0 : Int32), q649.2)
  else
  if (q1.2.1 137 12) = (0 : Int32) then
  (F_X12_named w q1.2).bind fun q496 =>
  if (0 : Int32) ≤ q496.1 then
  if a1 = (0 : Int32) then
  if (q496.2.1 137 12) ≤ (0 : Int32) then
  (F_X12_named w q496.2).bind fun q501 =>
  if q1.1 = true then
  (F_X12_must w q501.2 (1 : Int32)).bind fun q506 =>
  some (q501.1 + (6 : Int32), q506.2)
  else
  (F_X12_must w q501.2 (1 : Int32)).bind fun q504 =>
  some (q501.1 + (0 : Int32), q504.2)
  else
  (F_X12_must w q496.2 (1 : Int32)).bind fun q508 =>
  some ((0 : Int32), q508.2)
  else
  (F_X12_fail w q496.2 (5 : Int32) (q496.2.1 137 15)).bind fun q510 =>
  if (q510.2.1 137 12) ≤ (0 : Int32) then
  (F_X12_named w q510.2).bind fun q513 =>
  if q1.1 = true then
  (F_X12_must w q513.2 (1 : Int32)).bind fun q518 =>
  some (q513.1 + (6 : Int32), q518.2)
  else
  (F_X12_must w q513.2 (1 : Int32)).bind fun q516 =>
  some (q513.1 + (0 : Int32), q516.2)
  else
  (F_X12_must w q510.2 (1 : Int32)).bind fun q520 =>
  some ((0 : Int32), q520.2)
  else
  (F_X12_fail w q496.2 (3 : Int32) (q496.2.1 137 15)).bind fun q522 =>
  if a1 = (0 : Int32) then
  if (q522.2.1 137 12) ≤ (0 : Int32) then
  (F_X12_named w q522.2).bind fun q526 =>
  if q1.1 = true then
  (F_X12_must w q526.2 (1 : Int32)).bind fun q531 =>
  some (q526.1 + (6 : Int32), q531.2)
  else
  (F_X12_must w q526.2 (1 : Int32)).bind fun q529 =>
  some (q526.1 + (0 : Int32), q529.2)
  else
  (F_X12_must w q522.2 (1 : Int32)).bind fun q533 =>
  some ((0 : Int32), q533.2)
  else
  (F_X12_fail w q522.2 (5 : Int32) (q522.2.1 137 15)).bind fun q535 =>
  if (q535.2.1 137 12) ≤ (0 : Int32) then
  (F_X12_named w q535.2).bind fun q538 =>
  if q1.1 = true then
  (F_X12_must w q538.2 (1 : Int32)).bind fun q543 =>
  some (q538.1 + (6 : Int32), q543.2)
  else
  (F_X12_must w q538.2 (1 : Int32)).bind fun q541 =>
  some (q538.1 + (0 : Int32), q541.2)
  else
  (F_X12_must w q535.2 (1 : Int32)).bind fun q545 =>
  some ((0 : Int32), q545.2)
  else
  if a1 = (0 : Int32) then
  if (q1.2.1 137 12) ≤ (0 : Int32) then
  (F_X12_named w q1.2).bind fun q475 =>
  if q1.1 = true then
  (F_X12_must w q475.2 (1 : Int32)).bind fun q480 =>
  some (q475.1 + (6 : Int32), q480.2)
  else
  (F_X12_must w q475.2 (1 : Int32)).bind fun q478 =>
  some (q475.1 + (0 : Int32), q478.2)
  else
  (F_X12_must w q1.2 (1 : Int32)).bind fun q482 =>
  some ((0 : Int32), q482.2)
  else
  (F_X12_fail w q1.2 (5 : Int32) (q1.2.1 137 15)).bind fun q484 =>
  if (q484.2.1 137 12) ≤ (0 : Int32) then
  (F_X12_named w q484.2).bind fun q487 =>
  if q1.1 = true then
  (F_X12_must w q487.2 (1 : Int32)).bind fun q492 =>
  some (q487.1 + (6 : Int32), q492.2)
  else
  (F_X12_must w q487.2 (1 : Int32)).bind fun q490 =>
  some (q487.1 + (0 : Int32), q490.2)
  else
  (F_X12_must w q484.2 (1 : Int32)).bind fun q494 =>
  some ((0 : Int32), q494.2)
  else
  (F_X12_fail w q1.2 (5 : Int32) (q1.2.1 137 15)).bind fun q935 =>
  if q1.1 = true then
  (F_X12_must w q935.2 (1 : Int32)).bind fun q1169 =>
  if (q1169.2.1 137 12) = (0 : Int32) then
  (F_X12_isName w q1169.2).bind fun q1247 =>
  if q1247.1 = true then
  if (q1247.2.1 137 12) = (0 : Int32) then
  (F_X12_named w q1247.2).bind fun q1274 =>
  if (0 : Int32) ≤ q1274.1 then
  if a1 = (0 : Int32) then
  if (q1274.2.1 137 12) ≤ (0 : Int32) then
  (F_X12_named w q1274.2).bind fun q1279 =>
  if q1.1 = true then
  (F_X12_must w q1279.2 (1 : Int32)).bind fun q1284 =>
  some (q1279.1 + (6 : Int32), q1284.2)
  else
  (F_X12_must w q1279.2 (1 : Int32)).bind fun q1282 =>
  some (q1279.1 + (0 : Int32), q1282.2)
  else
  (F_X12_must w q1274.2 (1 : Int32)).bind fun q1286 =>
  some ((0 : Int32), q1286.2)
  else
  (F_X12_fail w q1274.2 (5 : Int32) (q1274.2.1 137 15)).bind fun q1288 =>
  if (q1288.2.1 137 12) ≤ (0 : Int32) then
  (F_X12_named w q1288.2).bind fun q1291 =>
  if q1.1 = true then
  (F_X12_must w q1291.2 (1 : Int32)).bind fun q1296 =>
  some (q1291.1 + (6 : Int32), q1296.2)
  else
  (F_X12_must w q1291.2 (1 : Int32)).bind fun q1294 =>
  some (q1291.1 + (0 : Int32), q1294.2)
  else
  (F_X12_must w q1288.2 (1 : Int32)).bind fun q1298 =>
  some ((0 : Int32), q1298.2)
  else
  (F_X12_fail w q1274.2 (3 : Int32) (q1274.2.1 137 15)).bind fun q1300 =>
  if a1 = (0 : Int32) then
  if (q1300.2.1 137 12) ≤ (0 : Int32) then
  (F_X12_named w q1300.2).bind fun q1304 =>
  if q1.1 = true then
  (F_X12_must w q1304.2 (1 : Int32)).bind fun q1309 =>
  some (q1304.1 + (6 : Int32), q1309.2)
  else
  (F_X12_must w q1304.2 (1 : Int32)).bind fun q1307 =>
  some (q1304.1 + (0 : Int32), q1307.2)
  else
  (F_X12_must w q1300.2 (1 : Int32)).bind fun q1311 =>
  some ((0 : Int32), q1311.2)
  else
  (F_X12_fail w q1300.2 (5 : Int32) (q1300.2.1 137 15)).bind fun q1313 =>
  if (q1313.2.1 137 12) ≤ (0 : Int32) then
  (F_X12_named w q1313.2).bind fun q1316 =>
  if q1.1 = true then
  (F_X12_must w q1316.2 (1 : Int32)).bind fun q1321 =>
  some (q1316.1 + (6 : Int32), q1321.2)
  else
  (F_X12_must w q1316.2 (1 : Int32)).bind fun q1319 =>
  some (q1316.1 + (0 : Int32), q1319.2)
  else
  (F_X12_must w q1313.2 (1 : Int32)).bind fun q1323 =>
  some ((0 : Int32), q1323.2)
  else
  if a1 = (0 : Int32) then
  if (q1247.2.1 137 12) ≤ (0 : Int32) then
  (F_X12_named w q1247.2).bind fun q1253 =>
  if q1.1 = true then
  (F_X12_must w q1253.2 (1 : Int32)).bind fun q1258 =>
  some (q1253.1 + (6 : Int32), q1258.2)
  else
  (F_X12_must w q1253.2 (1 : Int32)).bind fun q1256 =>
  some (q1253.1 + (0 : Int32), q1256.2)
  else
  (F_X12_must w q1247.2 (1 : Int32)).bind fun q1260 =>
  some ((0 : Int32), q1260.2)
  else
  (F_X12_fail w q1247.2 (5 : Int32) (q1247.2.1 137 15)).bind fun q1262 =>
  if (q1262.2.1 137 12) ≤ (0 : Int32) then
  (F_X12_named w q1262.2).bind fun q1265 =>
  if q1.1 = true then
  (F_X12_must w q1265.2 (1 : Int32)).bind fun q1270 =>
  some (q1265.1 + (6 : Int32), q1270.2)
  else
  (F_X12_must w q1265.2 (1 : Int32)).bind fun q1268 =>
  some (q1265.1 + (0 : Int32), q1268.2)
  else
  (F_X12_must w q1262.2 (1 : Int32)).bind fun q1272 =>
  some ((0 : Int32), q1272.2)
  else
  (F_X12_amiss w q1247.2).bind fun q1325 =>
  if (q1325.2.1 137 12) = (0 : Int32) then
  (F_X12_named w q1325.2).bind fun q1351 =>
  if (0 : Int32) ≤ q1351.1 then
  if a1 = (0 : Int32) then
  if (q1351.2.1 137 12) ≤ (0 : Int32) then
  (F_X12_named w q1351.2).bind fun q1356 =>
  if q1.1 = true then
  (F_X12_must w q1356.2 (1 : Int32)).bind fun q1361 =>
  some (q1356.1 + (6 : Int32), q1361.2)
  else
  (F_X12_must w q1356.2 (1 : Int32)).bind fun q1359 =>
  some (q1356.1 + (0 : Int32), q1359.2)
  else
  (F_X12_must w q1351.2 (1 : Int32)).bind fun q1363 =>
  some ((0 : Int32), q1363.2)
  else
  (F_X12_fail w q1351.2 (5 : Int32) (q1351.2.1 137 15)).bind fun q1365 =>
  if (q1365.2.1 137 12) ≤ (0 : Int32) then
  (F_X12_named w q1365.2).bind fun q1368 =>
  if q1.1 = true then
  (F_X12_must w q1368.2 (1 : Int32)).bind fun q1373 =>
  some (q1368.1 + (6 : Int32), q1373.2)
  else
  (F_X12_must w q1368.2 (1 : Int32)).bind fun q1371 =>
  some (q1368.1 + (0 : Int32), q1371.2)
  else
  (F_X12_must w q1365.2 (1 : Int32)).bind fun q1375 =>
  some ((0 : Int32), q1375.2)
  else
  (F_X12_fail w q1351.2 (3 : Int32) (q1351.2.1 137 15)).bind fun q1377 =>
  if a1 = (0 : Int32) then
  if (q1377.2.1 137 12) ≤ (0 : Int32) then
  (F_X12_named w q1377.2).bind fun q1381 =>
  if q1.1 = true then
  (F_X12_must w q1381.2 (1 : Int32)).bind fun q1386 =>
  some (q1381.1 + (6 : Int32), q1386.2)
  else
  (F_X12_must w q1381.2 (1 : Int32)).bind fun q1384 =>
  some (q1381.1 + (0 : Int32), q1384.2)
  else
  (F_X12_must w q1377.2 (1 : Int32)).bind fun q1388 =>
  some ((0 : Int32), q1388.2)
  else
  (F_X12_fail w q1377.2 (5 : Int32) (q1377.2.1 137 15)).bind fun q1390 =>
  if (q1390.2.1 137 12) ≤ (0 : Int32) then
  (F_X12_named w q1390.2).bind fun q1393 =>
  if q1.1 = true then
  (F_X12_must w q1393.2 (1 : Int32)).bind fun q1398 =>
  some (q1393.1 + (6 : Int32), q1398.2)
  else
  (F_X12_must w q1393.2 (1 : Int32)).bind fun q1396 =>
  some (q1393.1 + (0 : Int32), q1396.2)
  else
  (F_X12_must w q1390.2 (1 : Int32)).bind fun q1400 =>
  some ((0 : Int32), q1400.2)
  else
  if a1 = (0 : Int32) then
  if (q1325.2.1 137 12) ≤ (0 : Int32) then
  (F_X12_named w q1325.2).bind fun q1330 =>
  if q1.1 = true then
  (F_X12_must w q1330.2 (1 : Int32)).bind fun q1335 =>
  some (q1330.1 + (6 : Int32), q1335.2)
  else
  (F_X12_must w q1330.2 (1 : Int32)).bind fun q1333 =>
  some (q1330.1 + (0 : Int32), q1333.2)
  else
  (F_X12_must w q1325.2 (1 : Int32)).bind fun q1337 =>
  some ((0 : Int32), q1337.2)
  else
  (F_X12_fail w q1325.2 (5 : Int32) (q1325.2.1 137 15)).bind fun q1339 =>
  if (q1339.2.1 137 12) ≤ (0 : Int32) then
  (F_X12_named w q1339.2).bind fun q1342 =>
  if q1.1 = true then
  (F_X12_must w q1342.2 (1 : Int32)).bind fun q1347 =>
  some (q1342.1 + (6 : Int32), q1347.2)
  else
  (F_X12_must w q1342.2 (1 : Int32)).bind fun q1345 =>
  some (q1342.1 + (0 : Int32), q1345.2)
  else
  (F_X12_must w q1339.2 (1 : Int32)).bind fun q1349 =>
  some ((0 : Int32), q1349.2)
  else
  if (q1169.2.1 137 12) = (0 : Int32) then
  (F_X12_named w q1169.2).bind fun q1196 =>
  if (0 : Int32) ≤ q1196.1 then
  if a1 = (0 : Int32) then
  if (q1196.2.1 137 12) ≤ (0 : Int32) then
  (F_X12_named w q1196.2).bind fun q1201 =>
  if q1.1 = true then
  (F_X12_must w q1201.2 (1 : Int32)).bind fun q1206 =>
  some (q1201.1 + (6 : Int32), q1206.2)
  else
  (F_X12_must w q1201.2 (1 : Int32)).bind fun q1204 =>
  some (q1201.1 + (0 : Int32), q1204.2)
  else
  (F_X12_must w q1196.2 (1 : Int32)).bind fun q1208 =>
  some ((0 : Int32), q1208.2)
  else
  (F_X12_fail w q1196.2 (5 : Int32) (q1196.2.1 137 15)).bind fun q1210 =>
  if (q1210.2.1 137 12) ≤ (0 : Int32) then
  (F_X12_named w q1210.2).bind fun q1213 =>
  if q1.1 = true then
  (F_X12_must w q1213.2 (1 : Int32)).bind fun q1218 =>
  some (q1213.1 + (6 : Int32), q1218.2)
  else
  (F_X12_must w q1213.2 (1 : Int32)).bind fun q1216 =>
  some (q1213.1 + (0 : Int32), q1216.2)
  else
  (F_X12_must w q1210.2 (1 : Int32)).bind fun q1220 =>
  some ((0 : Int32), q1220.2)
  else
  (F_X12_fail w q1196.2 (3 : Int32) (q1196.2.1 137 15)).bind fun q1222 =>
  if a1 = (0 : Int32) then
  if (q1222.2.1 137 12) ≤ (0 : Int32) then
  (F_X12_named w q1222.2).bind fun q1226 =>
  if q1.1 = true then
  (F_X12_must w q1226.2 (1 : Int32)).bind fun q1231 =>
  some (q1226.1 + (6 : Int32), q1231.2)
  else
  (F_X12_must w q1226.2 (1 : Int32)).bind fun q1229 =>
  some (q1226.1 + (0 : Int32), q1229.2)
  else
  (F_X12_must w q1222.2 (1 : Int32)).bind fun q1233 =>
  some ((0 : Int32), q1233.2)
  else
  (F_X12_fail w q1222.2 (5 : Int32) (q1222.2.1 137 15)).bind fun q1235 =>
  if (q1235.2.1 137 12) ≤ (0 : Int32) then
  (F_X12_named w q1235.2).bind fun q1238 =>
  if q1.1 = true then
  (F_X12_must w q1238.2 (1 : Int32)).bind fun q1243 =>
  some (q1238.1 + (6 : Int32), q1243.2)
  else
  (F_X12_must w q1238.2 (1 : Int32)).bind fun q1241 =>
  some (q1238.1 + (0 : Int32), q1241.2)
  else
  (F_X12_must w q1235.2 (1 : Int32)).bind fun q1245 =>
  some ((0 : Int32), q1245.2)
  else
  if a1 = (0 : Int32) then
  if (q1169.2.1 137 12) ≤ (0 : Int32) then
  (F_X12_named w q1169.2).bind fun q1175 =>
  if q1.1 = true then
  (F_X12_must w q1175.2 (1 : Int32)).bind fun q1180 =>
  some (q1175.1 + (6 : Int32), q1180.2)
  else
  (F_X12_must w q1175.2 (1 : Int32)).bind fun q1178 =>
  some (q1175.1 + (0 : Int32), q1178.2)
  else
  (F_X12_must w q1169.2 (1 : Int32)).bind fun q1182 =>
  some ((0 : Int32), q1182.2)
  else
  (F_X12_fail w q1169.2 (5 : Int32) (q1169.2.1 137 15)).bind fun q1184 =>
  if (q1184.2.1 137 12) ≤ (0 : Int32) then
  (F_X12_named w q1184.2).bind fun q1187 =>
  if q1.1 = true then
  (F_X12_must w q1187.2 (1 : Int32)).bind fun q1192 =>
  some (q1187.1 + (6 : Int32), q1192.2)
  else
  (F_X12_must w q1187.2 (1 : Int32)).bind fun q1190 =>
  some (q1187.1 + (0 : Int32), q1190.2)
  else
  (F_X12_must w q1184.2 (1 : Int32)).bind fun q1194 =>
  some ((0 : Int32), q1194.2)
  else
  if (q935.2.1 137 12) = (0 : Int32) then
  (F_X12_isName w q935.2).bind fun q1014 =>
  if q1014.1 = true then
  if (q1014.2.1 137 12) = (0 : Int32) then
  (F_X12_named w q1014.2).bind fun q1041 =>
  if (0 : Int32) ≤ q1041.1 then
  if a1 = (0 : Int32) then
  if (q1041.2.1 137 12) ≤ (0 : Int32) then
  (F_X12_named w q1041.2).bind fun q1046 =>
  if q1.1 = true then
  (F_X12_must w q1046.2 (1 : Int32)).bind fun q1051 =>
  some (q1046.1 + (6 : Int32), q1051.2)
  else
  (F_X12_must w q1046.2 (1 : Int32)).bind fun q1049 =>
  some (q1046.1 + (0 : Int32), q1049.2)
  else
  (F_X12_must w q1041.2 (1 : Int32)).bind fun q1053 =>
  some ((0 : Int32), q1053.2)
  else
  (F_X12_fail w q1041.2 (5 : Int32) (q1041.2.1 137 15)).bind fun q1055 =>
  if (q1055.2.1 137 12) ≤ (0 : Int32) then
  (F_X12_named w q1055.2).bind fun q1058 =>
  if q1.1 = true then
  (F_X12_must w q1058.2 (1 : Int32)).bind fun q1063 =>
  some (q1058.1 + (6 : Int32), q1063.2)
  else
  (F_X12_must w q1058.2 (1 : Int32)).bind fun q1061 =>
  some (q1058.1 + (0 : Int32), q1061.2)
  else
  (F_X12_must w q1055.2 (1 : Int32)).bind fun q1065 =>
  some ((0 : Int32), q1065.2)
  else
  (F_X12_fail w q1041.2 (3 : Int32) (q1041.2.1 137 15)).bind fun q1067 =>
  if a1 = (0 : Int32) then
  if (q1067.2.1 137 12) ≤ (0 : Int32) then
  (F_X12_named w q1067.2).bind fun q1071 =>
  if q1.1 = true then
  (F_X12_must w q1071.2 (1 : Int32)).bind fun q1076 =>
  some (q1071.1 + (6 : Int32), q1076.2)
  else
  (F_X12_must w q1071.2 (1 : Int32)).bind fun q1074 =>
  some (q1071.1 + (0 : Int32), q1074.2)
  else
  (F_X12_must w q1067.2 (1 : Int32)).bind fun q1078 =>
  some ((0 : Int32), q1078.2)
  else
  (F_X12_fail w q1067.2 (5 : Int32) (q1067.2.1 137 15)).bind fun q1080 =>
  if (q1080.2.1 137 12) ≤ (0 : Int32) then
  (F_X12_named w q1080.2).bind fun q1083 =>
  if q1.1 = true then
  (F_X12_must w q1083.2 (1 : Int32)).bind fun q1088 =>
  some (q1083.1 + (6 : Int32), q1088.2)
  else
  (F_X12_must w q1083.2 (1 : Int32)).bind fun q1086 =>
  some (q1083.1 + (0 : Int32), q1086.2)
  else
  (F_X12_must w q1080.2 (1 : Int32)).bind fun q1090 =>
  some ((0 : Int32), q1090.2)
  else
  if a1 = (0 : Int32) then
  if (q1014.2.1 137 12) ≤ (0 : Int32) then
  (F_X12_named w q1014.2).bind fun q1020 =>
  if q1.1 = true then
  (F_X12_must w q1020.2 (1 : Int32)).bind fun q1025 =>
  some (q1020.1 + (6 : Int32), q1025.2)
  else
  (F_X12_must w q1020.2 (1 : Int32)).bind fun q1023 =>
  some (q1020.1 + (0 : Int32), q1023.2)
  else
  (F_X12_must w q1014.2 (1 : Int32)).bind fun q1027 =>
  some ((0 : Int32), q1027.2)
  else
  (F_X12_fail w q1014.2 (5 : Int32) (q1014.2.1 137 15)).bind fun q1029 =>
  if (q1029.2.1 137 12) ≤ (0 : Int32) then
  (F_X12_named w q1029.2).bind fun q1032 =>
  if q1.1 = true then
  (F_X12_must w q1032.2 (1 : Int32)).bind fun q1037 =>
  some (q1032.1 + (6 : Int32), q1037.2)
  else
  (F_X12_must w q1032.2 (1 : Int32)).bind fun q1035 =>
  some (q1032.1 + (0 : Int32), q1035.2)
  else
  (F_X12_must w q1029.2 (1 : Int32)).bind fun q1039 =>
  some ((0 : Int32), q1039.2)
  else
  (F_X12_amiss w q1014.2).bind fun q1092 =>
  if (q1092.2.1 137 12) = (0 : Int32) then
  (F_X12_named w q1092.2).bind fun q1118 =>
  if (0 : Int32) ≤ q1118.1 then
  if a1 = (0 : Int32) then
  if (q1118.2.1 137 12) ≤ (0 : Int32) then
  (F_X12_named w q1118.2).bind fun q1123 =>
  if q1.1 = true then
  (F_X12_must w q1123.2 (1 : Int32)).bind fun q1128 =>
  some (q1123.1 + (6 : Int32), q1128.2)
  else
  (F_X12_must w q1123.2 (1 : Int32)).bind fun q1126 =>
  some (q1123.1 + (0 : Int32), q1126.2)
  else
  (F_X12_must w q1118.2 (1 : Int32)).bind fun q1130 =>
  some ((0 : Int32), q1130.2)
  else
  (F_X12_fail w q1118.2 (5 : Int32) (q1118.2.1 137 15)).bind fun q1132 =>
  if (q1132.2.1 137 12) ≤ (0 : Int32) then
  (F_X12_named w q1132.2).bind fun q1135 =>
  if q1.1 = true then
  (F_X12_must w q1135.2 (1 : Int32)).bind fun q1140 =>
  some (q1135.1 + (6 : Int32), q1140.2)
  else
  (F_X12_must w q1135.2 (1 : Int32)).bind fun q1138 =>
  some (q1135.1 + (0 : Int32), q1138.2)
  else
  (F_X12_must w q1132.2 (1 : Int32)).bind fun q1142 =>
  some ((0 : Int32), q1142.2)
  else
  (F_X12_fail w q1118.2 (3 : Int32) (q1118.2.1 137 15)).bind fun q1144 =>
  if a1 = (0 : Int32) then
  if (q1144.2.1 137 12) ≤ (0 : Int32) then
  (F_X12_named w q1144.2).bind fun q1148 =>
  if q1.1 = true then
  (F_X12_must w q1148.2 (1 : Int32)).bind fun q1153 =>
  some (q1148.1 + (6 : Int32), q1153.2)
  else
  (F_X12_must w q1148.2 (1 : Int32)).bind fun q1151 =>
  some (q1148.1 + (0 : Int32), q1151.2)
  else
  (F_X12_must w q1144.2 (1 : Int32)).bind fun q1155 =>
  some ((0 : Int32), q1155.2)
  else
  (F_X12_fail w q1144.2 (5 : Int32) (q1144.2.1 137 15)).bind fun q1157 =>
  if (q1157.2.1 137 12) ≤ (0 : Int32) then
  (F_X12_named w q1157.2).bind fun q1160 =>
  if q1.1 = true then
  (F_X12_must w q1160.2 (1 : Int32)).bind fun q1165 =>
  some (q1160.1 + (6 : Int32), q1165.2)
  else
  (F_X12_must w q1160.2 (1 : Int32)).bind fun q1163 =>
  some (q1160.1 + (0 : Int32), q1163.2)
  else
  (F_X12_must w q1157.2 (1 : Int32)).bind fun q1167 =>
  some ((0 : Int32), q1167.2)
  else
  if a1 = (0 : Int32) then
  if (q1092.2.1 137 12) ≤ (0 : Int32) then
  (F_X12_named w q1092.2).bind fun q1097 =>
  if q1.1 = true then
  (F_X12_must w q1097.2 (1 : Int32)).bind fun q1102 =>
  some (q1097.1 + (6 : Int32), q1102.2)
  else
  (F_X12_must w q1097.2 (1 : Int32)).bind fun q1100 =>
  some (q1097.1 + (0 : Int32), q1100.2)
  else
  (F_X12_must w q1092.2 (1 : Int32)).bind fun q1104 =>
  some ((0 : Int32), q1104.2)
  else
  (F_X12_fail w q1092.2 (5 : Int32) (q1092.2.1 137 15)).bind fun q1106 =>
  if (q1106.2.1 137 12) ≤ (0 : Int32) then
  (F_X12_named w q1106.2).bind fun q1109 =>
  if q1.1 = true then
  (F_X12_must w q1109.2 (1 : Int32)).bind fun q1114 =>
  some (q1109.1 + (6 : Int32), q1114.2)
  else
  (F_X12_must w q1109.2 (1 : Int32)).bind fun q1112 =>
  some (q1109.1 + (0 : Int32), q1112.2)
  else
  (F_X12_must w q1106.2 (1 : Int32)).bind fun q1116 =>
  some ((0 : Int32), q1116.2)
  else
  if (q935.2.1 137 12) = (0 : Int32) then
  (F_X12_named w q935.2).bind fun q963 =>
  if (0 : Int32) ≤ q963.1 then
  if a1 = (0 : Int32) then
  if (q963.2.1 137 12) ≤ (0 : Int32) then
  (F_X12_named w q963.2).bind fun q968 =>
  if q1.1 = true then
  (F_X12_must w q968.2 (1 : Int32)).bind fun q973 =>
  some (q968.1 + (6 : Int32), q973.2)
  else
  (F_X12_must w q968.2 (1 : Int32)).bind fun q971 =>
  some (q968.1 + (0 : Int32), q971.2)
  else
  (F_X12_must w q963.2 (1 : Int32)).bind fun q975 =>
  some ((0 : Int32), q975.2)
  else
  (F_X12_fail w q963.2 (5 : Int32) (q963.2.1 137 15)).bind fun q977 =>
  if (q977.2.1 137 12) ≤ (0 : Int32) then
  (F_X12_named w q977.2).bind fun q980 =>
  if q1.1 = true then
  (F_X12_must w q980.2 (1 : Int32)).bind fun q985 =>
  some (q980.1 + (6 : Int32), q985.2)
  else
  (F_X12_must w q980.2 (1 : Int32)).bind fun q983 =>
  some (q980.1 + (0 : Int32), q983.2)
  else
  (F_X12_must w q977.2 (1 : Int32)).bind fun q987 =>
  some ((0 : Int32), q987.2)
  else
  (F_X12_fail w q963.2 (3 : Int32) (q963.2.1 137 15)).bind fun q989 =>
  if a1 = (0 : Int32) then
  if (q989.2.1 137 12) ≤ (0 : Int32) then
  (F_X12_named w q989.2).bind fun q993 =>
  if q1.1 = true then
  (F_X12_must w q993.2 (1 : Int32)).bind fun q998 =>
  some (q993.1 + (6 : Int32), q998.2)
  else
  (F_X12_must w q993.2 (1 : Int32)).bind fun q996 =>
  some (q993.1 + (0 : Int32), q996.2)
  else
  (F_X12_must w q989.2 (1 : Int32)).bind fun q1000 =>
  some ((0 : Int32), q1000.2)
  else
  (F_X12_fail w q989.2 (5 : Int32) (q989.2.1 137 15)).bind fun q1002 =>
  if (q1002.2.1 137 12) ≤ (0 : Int32) then
  (F_X12_named w q1002.2).bind fun q1005 =>
  if q1.1 = true then
  (F_X12_must w q1005.2 (1 : Int32)).bind fun q1010 =>
  some (q1005.1 + (6 : Int32), q1010.2)
  else
  (F_X12_must w q1005.2 (1 : Int32)).bind fun q1008 =>
  some (q1005.1 + (0 : Int32), q1008.2)
  else
  (F_X12_must w q1002.2 (1 : Int32)).bind fun q1012 =>
  some ((0 : Int32), q1012.2)
  else
  if a1 = (0 : Int32) then
  if (q935.2.1 137 12) ≤ (0 : Int32) then
  (F_X12_named w q935.2).bind fun q942 =>
  if q1.1 = true then
  (F_X12_must w q942.2 (1 : Int32)).bind fun q947 =>
  some (q942.1 + (6 : Int32), q947.2)
  else
  (F_X12_must w q942.2 (1 : Int32)).bind fun q945 =>
  some (q942.1 + (0 : Int32), q945.2)
  else
  (F_X12_must w q935.2 (1 : Int32)).bind fun q949 =>
  some ((0 : Int32), q949.2)
  else
  (F_X12_fail w q935.2 (5 : Int32) (q935.2.1 137 15)).bind fun q951 =>
  if (q951.2.1 137 12) ≤ (0 : Int32) then
  (F_X12_named w q951.2).bind fun q954 =>
  if q1.1 = true then
  (F_X12_must w q954.2 (1 : Int32)).bind fun q959 =>
  some (q954.1 + (6 : Int32), q959.2)
  else
  (F_X12_must w q954.2 (1 : Int32)).bind fun q957 =>
  some (q954.1 + (0 : Int32), q957.2)
  else
  (F_X12_must w q951.2 (1 : Int32)).bind fun q961 =>
  some ((0 : Int32), q961.2)
  else
  if q1.1 = true then
  (F_X12_must w q1.2 (1 : Int32)).bind fun q236 =>
  if (q236.2.1 137 12) = (0 : Int32) then
  (F_X12_isName w q236.2).bind fun q314 =>
  if q314.1 = true then
  if (q314.2.1 137 12) = (0 : Int32) then
  (F_X12_named w q314.2).bind fun q341 =>
  if (0 : Int32) ≤ q341.1 then
  if a1 = (0 : Int32) then
  if (q341.2.1 137 12) ≤ (0 : Int32) then
  (F_X12_named w q341.2).bind fun q346 =>
  if q1.1 = true then
  (F_X12_must w q346.2 (1 : Int32)).bind fun q351 =>
  some (q346.1 + (6 : Int32), q351.2)
  else
  (F_X12_must w q346.2 (1 : Int32)).bind fun q349 =>
  some (q346.1 + (0 : Int32), q349.2)
  else
  (F_X12_must w q341.2 (1 : Int32)).bind fun q353 =>
  some ((0 : Int32), q353.2)
  else
  (F_X12_fail w q341.2 (5 : Int32) (q341.2.1 137 15)).bind fun q355 =>
  if (q355.2.1 137 12) ≤ (0 : Int32) then
  (F_X12_named w q355.2).bind fun q358 =>
  if q1.1 = true then
  (F_X12_must w q358.2 (1 : Int32)).bind fun q363 =>
  some (q358.1 + (6 : Int32), q363.2)
  else
  (F_X12_must w q358.2 (1 : Int32)).bind fun q361 =>
  some (q358.1 + (0 : Int32), q361.2)
  else
  (F_X12_must w q355.2 (1 : Int32)).bind fun q365 =>
  some ((0 : Int32), q365.2)
  else
  (F_X12_fail w q341.2 (3 : Int32) (q341.2.1 137 15)).bind fun q367 =>
  if a1 = (0 : Int32) then
  if (q367.2.1 137 12) ≤ (0 : Int32) then
  (F_X12_named w q367.2).bind fun q371 =>
  if q1.1 = true then
  (F_X12_must w q371.2 (1 : Int32)).bind fun q376 =>
  some (q371.1 + (6 : Int32), q376.2)
  else
  (F_X12_must w q371.2 (1 : Int32)).bind fun q374 =>
  some (q371.1 + (0 : Int32), q374.2)
  else
  (F_X12_must w q367.2 (1 : Int32)).bind fun q378 =>
  some ((0 : Int32), q378.2)
  else
  (F_X12_fail w q367.2 (5 : Int32) (q367.2.1 137 15)).bind fun q380 =>
  if (q380.2.1 137 12) ≤ (0 : Int32) then
  (F_X12_named w q380.2).bind fun q383 =>
  if q1.1 = true then
  (F_X12_must w q383.2 (1 : Int32)).bind fun q388 =>
  some (q383.1 + (6 : Int32), q388.2)
  else
  (F_X12_must w q383.2 (1 : Int32)).bind fun q386 =>
  some (q383.1 + (0 : Int32), q386.2)
  else
  (F_X12_must w q380.2 (1 : Int32)).bind fun q390 =>
  some ((0 : Int32), q390.2)
  else
  if a1 = (0 : Int32) then
  if (q314.2.1 137 12) ≤ (0 : Int32) then
  (F_X12_named w q314.2).bind fun q320 =>
  if q1.1 = true then
  (F_X12_must w q320.2 (1 : Int32)).bind fun q325 =>
  some (q320.1 + (6 : Int32), q325.2)
  else
  (F_X12_must w q320.2 (1 : Int32)).bind fun q323 =>
  some (q320.1 + (0 : Int32), q323.2)
  else
  (F_X12_must w q314.2 (1 : Int32)).bind fun q327 =>
  some ((0 : Int32), q327.2)
  else
  (F_X12_fail w q314.2 (5 : Int32) (q314.2.1 137 15)).bind fun q329 =>
  if (q329.2.1 137 12) ≤ (0 : Int32) then
  (F_X12_named w q329.2).bind fun q332 =>
  if q1.1 = true then
  (F_X12_must w q332.2 (1 : Int32)).bind fun q337 =>
  some (q332.1 + (6 : Int32), q337.2)
  else
  (F_X12_must w q332.2 (1 : Int32)).bind fun q335 =>
  some (q332.1 + (0 : Int32), q335.2)
  else
  (F_X12_must w q329.2 (1 : Int32)).bind fun q339 =>
  some ((0 : Int32), q339.2)
  else
  (F_X12_amiss w q314.2).bind fun q392 =>
  if (q392.2.1 137 12) = (0 : Int32) then
  (F_X12_named w q392.2).bind fun q418 =>
  if (0 : Int32) ≤ q418.1 then
  if a1 = (0 : Int32) then
  if (q418.2.1 137 12) ≤ (0 : Int32) then
  (F_X12_named w q418.2).bind fun q423 =>
  if q1.1 = true then
  (F_X12_must w q423.2 (1 : Int32)).bind fun q428 =>
  some (q423.1 + (6 : Int32), q428.2)
  else
  (F_X12_must w q423.2 (1 : Int32)).bind fun q426 =>
  some (q423.1 + (0 : Int32), q426.2)
  else
  (F_X12_must w q418.2 (1 : Int32)).bind fun q430 =>
  some ((0 : Int32), q430.2)
  else
  (F_X12_fail w q418.2 (5 : Int32) (q418.2.1 137 15)).bind fun q432 =>
  if (q432.2.1 137 12) ≤ (0 : Int32) then
  (F_X12_named w q432.2).bind fun q435 =>
  if q1.1 = true then
  (F_X12_must w q435.2 (1 : Int32)).bind fun q440 =>
  some (q435.1 + (6 : Int32), q440.2)
  else
  (F_X12_must w q435.2 (1 : Int32)).bind fun q438 =>
  some (q435.1 + (0 : Int32), q438.2)
  else
  (F_X12_must w q432.2 (1 : Int32)).bind fun q442 =>
  some ((0 : Int32), q442.2)
  else
  (F_X12_fail w q418.2 (3 : Int32) (q418.2.1 137 15)).bind fun q444 =>
  if a1 = (0 : Int32) then
  if (q444.2.1 137 12) ≤ (0 : Int32) then
  (F_X12_named w q444.2).bind fun q448 =>
  if q1.1 = true then
  (F_X12_must w q448.2 (1 : Int32)).bind fun q453 =>
  some (q448.1 + (6 : Int32), q453.2)
  else
  (F_X12_must w q448.2 (1 : Int32)).bind fun q451 =>
  some (q448.1 + (0 : Int32), q451.2)
  else
  (F_X12_must w q444.2 (1 : Int32)).bind fun q455 =>
  some ((0 : Int32), q455.2)
  else
  (F_X12_fail w q444.2 (5 : Int32) (q444.2.1 137 15)).bind fun q457 =>
  if (q457.2.1 137 12) ≤ (0 : Int32) then
  (F_X12_named w q457.2).bind fun q460 =>
  if q1.1 = true then
  (F_X12_must w q460.2 (1 : Int32)).bind fun q465 =>
  some (q460.1 + (6 : Int32), q465.2)
  else
  (F_X12_must w q460.2 (1 : Int32)).bind fun q463 =>
  some (q460.1 + (0 : Int32), q463.2)
  else
  (F_X12_must w q457.2 (1 : Int32)).bind fun q467 =>
  some ((0 : Int32), q467.2)
  else
  if a1 = (0 : Int32) then
  if (q392.2.1 137 12) ≤ (0 : Int32) then
  (F_X12_named w q392.2).bind fun q397 =>
  if q1.1 = true then
  (F_X12_must w q397.2 (1 : Int32)).bind fun q402 =>
  some (q397.1 + (6 : Int32), q402.2)
  else
  (F_X12_must w q397.2 (1 : Int32)).bind fun q400 =>
  some (q397.1 + (0 : Int32), q400.2)
  else
  (F_X12_must w q392.2 (1 : Int32)).bind fun q404 =>
  some ((0 : Int32), q404.2)
  else
  (F_X12_fail w q392.2 (5 : Int32) (q392.2.1 137 15)).bind fun q406 =>
  if (q406.2.1 137 12) ≤ (0 : Int32) then
  (F_X12_named w q406.2).bind fun q409 =>
  if q1.1 = true then
  (F_X12_must w q409.2 (1 : Int32)).bind fun q414 =>
  some (q409.1 + (6 : Int32), q414.2)
  else
  (F_X12_must w q409.2 (1 : Int32)).bind fun q412 =>
  some (q409.1 + (0 : Int32), q412.2)
  else
  (F_X12_must w q406.2 (1 : Int32)).bind fun q416 =>
  some ((0 : Int32), q416.2)
  else
  if (q236.2.1 137 12) = (0 : Int32) then
  (F_X12_named w q236.2).bind fun q263 =>
  if (0 : Int32) ≤ q263.1 then
  if a1 = (0 : Int32) then
  if (q263.2.1 137 12) ≤ (0 : Int32) then
  (F_X12_named w q263.2).bind fun q268 =>
  if q1.1 = true then
  (F_X12_must w q268.2 (1 : Int32)).bind fun q273 =>
  some (q268.1 + (6 : Int32), q273.2)
  else
  (F_X12_must w q268.2 (1 : Int32)).bind fun q271 =>
  some (q268.1 + (0 : Int32), q271.2)
  else
  (F_X12_must w q263.2 (1 : Int32)).bind fun q275 =>
  some ((0 : Int32), q275.2)
  else
  (F_X12_fail w q263.2 (5 : Int32) (q263.2.1 137 15)).bind fun q277 =>
  if (q277.2.1 137 12) ≤ (0 : Int32) then
  (F_X12_named w q277.2).bind fun q280 =>
  if q1.1 = true then
  (F_X12_must w q280.2 (1 : Int32)).bind fun q285 =>
  some (q280.1 + (6 : Int32), q285.2)
  else
  (F_X12_must w q280.2 (1 : Int32)).bind fun q283 =>
  some (q280.1 + (0 : Int32), q283.2)
  else
  (F_X12_must w q277.2 (1 : Int32)).bind fun q287 =>
  some ((0 : Int32), q287.2)
  else
  (F_X12_fail w q263.2 (3 : Int32) (q263.2.1 137 15)).bind fun q289 =>
  if a1 = (0 : Int32) then
  if (q289.2.1 137 12) ≤ (0 : Int32) then
  (F_X12_named w q289.2).bind fun q293 =>
  if q1.1 = true then
  (F_X12_must w q293.2 (1 : Int32)).bind fun q298 =>
  some (q293.1 + (6 : Int32), q298.2)
  else
  (F_X12_must w q293.2 (1 : Int32)).bind fun q296 =>
  some (q293.1 + (0 : Int32), q296.2)
  else
  (F_X12_must w q289.2 (1 : Int32)).bind fun q300 =>
  some ((0 : Int32), q300.2)
  else
  (F_X12_fail w q289.2 (5 : Int32) (q289.2.1 137 15)).bind fun q302 =>
  if (q302.2.1 137 12) ≤ (0 : Int32) then
  (F_X12_named w q302.2).bind fun q305 =>
  if q1.1 = true then
  (F_X12_must w q305.2 (1 : Int32)).bind fun q310 =>
  some (q305.1 + (6 : Int32), q310.2)
  else
  (F_X12_must w q305.2 (1 : Int32)).bind fun q308 =>
  some (q305.1 + (0 : Int32), q308.2)
  else
  (F_X12_must w q302.2 (1 : Int32)).bind fun q312 =>
  some ((0 : Int32), q312.2)
  else
  if a1 = (0 : Int32) then
  if (q236.2.1 137 12) ≤ (0 : Int32) then
  (F_X12_named w q236.2).bind fun q242 =>
  if q1.1 = true then
  (F_X12_must w q242.2 (1 : Int32)).bind fun q247 =>
  some (q242.1 + (6 : Int32), q247.2)
  else
  (F_X12_must w q242.2 (1 : Int32)).bind fun q245 =>
  some (q242.1 + (0 : Int32), q245.2)
  else
  (F_X12_must w q236.2 (1 : Int32)).bind fun q249 =>
  some ((0 : Int32), q249.2)
  else
  (F_X12_fail w q236.2 (5 : Int32) (q236.2.1 137 15)).bind fun q251 =>
  if (q251.2.1 137 12) ≤ (0 : Int32) then
  (F_X12_named w q251.2).bind fun q254 =>
  if q1.1 = true then
  (F_X12_must w q254.2 (1 : Int32)).bind fun q259 =>
  some (q254.1 + (6 : Int32), q259.2)
  else
  (F_X12_must w q254.2 (1 : Int32)).bind fun q257 =>
  some (q254.1 + (0 : Int32), q257.2)
  else
  (F_X12_must w q251.2 (1 : Int32)).bind fun q261 =>
  some ((0 : Int32), q261.2)
  else
  if (q1.2.1 137 12) = (0 : Int32) then
  (F_X12_isName w q1.2).bind fun q81 =>
  if q81.1 = true then
  if (q81.2.1 137 12) = (0 : Int32) then
  (F_X12_named w q81.2).bind fun q108 =>
  if (0 : Int32) ≤ q108.1 then
  if a1 = (0 : Int32) then
  if (q108.2.1 137 12) ≤ (0 : Int32) then
  (F_X12_named w q108.2).bind fun q113 =>
  if q1.1 = true then
  (F_X12_must w q113.2 (1 : Int32)).bind fun q118 =>
  some (q113.1 + (6 : Int32), q118.2)
  else
  (F_X12_must w q113.2 (1 : Int32)).bind fun q116 =>
  some (q113.1 + (0 : Int32), q116.2)
  else
  (F_X12_must w q108.2 (1 : Int32)).bind fun q120 =>
  some ((0 : Int32), q120.2)
  else
  (F_X12_fail w q108.2 (5 : Int32) (q108.2.1 137 15)).bind fun q122 =>
  if (q122.2.1 137 12) ≤ (0 : Int32) then
  (F_X12_named w q122.2).bind fun q125 =>
  if q1.1 = true then
  (F_X12_must w q125.2 (1 : Int32)).bind fun q130 =>
  some (q125.1 + (6 : Int32), q130.2)
  else
  (F_X12_must w q125.2 (1 : Int32)).bind fun q128 =>
  some (q125.1 + (0 : Int32), q128.2)
  else
  (F_X12_must w q122.2 (1 : Int32)).bind fun q132 =>
  some ((0 : Int32), q132.2)
  else
  (F_X12_fail w q108.2 (3 : Int32) (q108.2.1 137 15)).bind fun q134 =>
  if a1 = (0 : Int32) then
  if (q134.2.1 137 12) ≤ (0 : Int32) then
  (F_X12_named w q134.2).bind fun q138 =>
  if q1.1 = true then
  (F_X12_must w q138.2 (1 : Int32)).bind fun q143 =>
  some (q138.1 + (6 : Int32), q143.2)
  else
  (F_X12_must w q138.2 (1 : Int32)).bind fun q141 =>
  some (q138.1 + (0 : Int32), q141.2)
  else
  (F_X12_must w q134.2 (1 : Int32)).bind fun q145 =>
  some ((0 : Int32), q145.2)
  else
  (F_X12_fail w q134.2 (5 : Int32) (q134.2.1 137 15)).bind fun q147 =>
  if (q147.2.1 137 12) ≤ (0 : Int32) then
  (F_X12_named w q147.2).bind fun q150 =>
  if q1.1 = true then
  (F_X12_must w q150.2 (1 : Int32)).bind fun q155 =>
  some (q150.1 + (6 : Int32), q155.2)
  else
  (F_X12_must w q150.2 (1 : Int32)).bind fun q153 =>
  some (q150.1 + (0 : Int32), q153.2)
  else
  (F_X12_must w q147.2 (1 : Int32)).bind fun q157 =>
  some ((0 : Int32), q157.2)
  else
  if a1 = (0 : Int32) then
  if (q81.2.1 137 12) ≤ (0 : Int32) then
  (F_X12_named w q81.2).bind fun q87 =>
  if q1.1 = true then
  (F_X12_must w q87.2 (1 : Int32)).bind fun q92 =>
  some (q87.1 + (6 : Int32), q92.2)
  else
  (F_X12_must w q87.2 (1 : Int32)).bind fun q90 =>
  some (q87.1 + (0 : Int32), q90.2)
  else
  (F_X12_must w q81.2 (1 : Int32)).bind fun q94 =>
  some ((0 : Int32), q94.2)
  else
  (F_X12_fail w q81.2 (5 : Int32) (q81.2.1 137 15)).bind fun q96 =>
  if (q96.2.1 137 12) ≤ (0 : Int32) then
  (F_X12_named w q96.2).bind fun q99 =>
  if q1.1 = true then
  (F_X12_must w q99.2 (1 : Int32)).bind fun q104 =>
  some (q99.1 + (6 : Int32), q104.2)
  else
  (F_X12_must w q99.2 (1 : Int32)).bind fun q102 =>
  some (q99.1 + (0 : Int32), q102.2)
  else
  (F_X12_must w q96.2 (1 : Int32)).bind fun q106 =>
  some ((0 : Int32), q106.2)
  else
  (F_X12_amiss w q81.2).bind fun q159 =>
  if (q159.2.1 137 12) = (0 : Int32) then
  (F_X12_named w q159.2).bind fun q185 =>
  if (0 : Int32) ≤ q185.1 then
  if a1 = (0 : Int32) then
  if (q185.2.1 137 12) ≤ (0 : Int32) then
  (F_X12_named w q185.2).bind fun q190 =>
  if q1.1 = true then
  (F_X12_must w q190.2 (1 : Int32)).bind fun q195 =>
  some (q190.1 + (6 : Int32), q195.2)
  else
  (F_X12_must w q190.2 (1 : Int32)).bind fun q193 =>
  some (q190.1 + (0 : Int32), q193.2)
  else
  (F_X12_must w q185.2 (1 : Int32)).bind fun q197 =>
  some ((0 : Int32), q197.2)
  else
  (F_X12_fail w q185.2 (5 : Int32) (q185.2.1 137 15)).bind fun q199 =>
  if (q199.2.1 137 12) ≤ (0 : Int32) then
  (F_X12_named w q199.2).bind fun q202 =>
  if q1.1 = true then
  (F_X12_must w q202.2 (1 : Int32)).bind fun q207 =>
  some (q202.1 + (6 : Int32), q207.2)
  else
  (F_X12_must w q202.2 (1 : Int32)).bind fun q205 =>
  some (q202.1 + (0 : Int32), q205.2)
  else
  (F_X12_must w q199.2 (1 : Int32)).bind fun q209 =>
  some ((0 : Int32), q209.2)
  else
  (F_X12_fail w q185.2 (3 : Int32) (q185.2.1 137 15)).bind fun q211 =>
  if a1 = (0 : Int32) then
  if (q211.2.1 137 12) ≤ (0 : Int32) then
  (F_X12_named w q211.2).bind fun q215 =>
  if q1.1 = true then
  (F_X12_must w q215.2 (1 : Int32)).bind fun q220 =>
  some (q215.1 + (6 : Int32), q220.2)
  else
  (F_X12_must w q215.2 (1 : Int32)).bind fun q218 =>
  some (q215.1 + (0 : Int32), q218.2)
  else
  (F_X12_must w q211.2 (1 : Int32)).bind fun q222 =>
  some ((0 : Int32), q222.2)
  else
  (F_X12_fail w q211.2 (5 : Int32) (q211.2.1 137 15)).bind fun q224 =>
  if (q224.2.1 137 12) ≤ (0 : Int32) then
  (F_X12_named w q224.2).bind fun q227 =>
  if q1.1 = true then
  (F_X12_must w q227.2 (1 : Int32)).bind fun q232 =>
  some (q227.1 + (6 : Int32), q232.2)
  else
  (F_X12_must w q227.2 (1 : Int32)).bind fun q230 =>
  some (q227.1 + (0 : Int32), q230.2)
  else
  (F_X12_must w q224.2 (1 : Int32)).bind fun q234 =>
  some ((0 : Int32), q234.2)
  else
  if a1 = (0 : Int32) then
  if (q159.2.1 137 12) ≤ (0 : Int32) then
  (F_X12_named w q159.2).bind fun q164 =>
  if q1.1 = true then
  (F_X12_must w q164.2 (1 : Int32)).bind fun q169 =>
  some (q164.1 + (6 : Int32), q169.2)
  else
  (F_X12_must w q164.2 (1 : Int32)).bind fun q167 =>
  some (q164.1 + (0 : Int32), q167.2)
  else
  (F_X12_must w q159.2 (1 : Int32)).bind fun q171 =>
  some ((0 : Int32), q171.2)
  else
  (F_X12_fail w q159.2 (5 : Int32) (q159.2.1 137 15)).bind fun q173 =>
  if (q173.2.1 137 12) ≤ (0 : Int32) then
  (F_X12_named w q173.2).bind fun q176 =>
  if q1.1 = true then
  (F_X12_must w q176.2 (1 : Int32)).bind fun q181 =>
  some (q176.1 + (6 : Int32), q181.2)
  else
  (F_X12_must w q176.2 (1 : Int32)).bind fun q179 =>
  some (q176.1 + (0 : Int32), q179.2)
  else
  (F_X12_must w q173.2 (1 : Int32)).bind fun q183 =>
  some ((0 : Int32), q183.2)
  else
  if (q1.2.1 137 12) = (0 : Int32) then
  (F_X12_named w q1.2).bind fun q30 =>
  if (0 : Int32) ≤ q30.1 then
  if a1 = (0 : Int32) then
  if (q30.2.1 137 12) ≤ (0 : Int32) then
  (F_X12_named w q30.2).bind fun q35 =>
  if q1.1 = true then
  (F_X12_must w q35.2 (1 : Int32)).bind fun q40 =>
  some (q35.1 + (6 : Int32), q40.2)
  else
  (F_X12_must w q35.2 (1 : Int32)).bind fun q38 =>
  some (q35.1 + (0 : Int32), q38.2)
  else
  (F_X12_must w q30.2 (1 : Int32)).bind fun q42 =>
  some ((0 : Int32), q42.2)
  else
  (F_X12_fail w q30.2 (5 : Int32) (q30.2.1 137 15)).bind fun q44 =>
  if (q44.2.1 137 12) ≤ (0 : Int32) then
  (F_X12_named w q44.2).bind fun q47 =>
  if q1.1 = true then
  (F_X12_must w q47.2 (1 : Int32)).bind fun q52 =>
  some (q47.1 + (6 : Int32), q52.2)
  else
  (F_X12_must w q47.2 (1 : Int32)).bind fun q50 =>
  some (q47.1 + (0 : Int32), q50.2)
  else
  (F_X12_must w q44.2 (1 : Int32)).bind fun q54 =>
  some ((0 : Int32), q54.2)
  else
  (F_X12_fail w q30.2 (3 : Int32) (q30.2.1 137 15)).bind fun q56 =>
  if a1 = (0 : Int32) then
  if (q56.2.1 137 12) ≤ (0 : Int32) then
  (F_X12_named w q56.2).bind fun q60 =>
  if q1.1 = true then
  (F_X12_must w q60.2 (1 : Int32)).bind fun q65 =>
  some (q60.1 + (6 : Int32), q65.2)
  else
  (F_X12_must w q60.2 (1 : Int32)).bind fun q63 =>
  some (q60.1 + (0 : Int32), q63.2)
  else
  (F_X12_must w q56.2 (1 : Int32)).bind fun q67 =>
  some ((0 : Int32), q67.2)
  else
  (F_X12_fail w q56.2 (5 : Int32) (q56.2.1 137 15)).bind fun q69 =>
  if (q69.2.1 137 12) ≤ (0 : Int32) then
  (F_X12_named w q69.2).bind fun q72 =>
  if q1.1 = true then
  (F_X12_must w q72.2 (1 : Int32)).bind fun q77 =>
  some (q72.1 + (6 : Int32), q77.2)
  else
  (F_X12_must w q72.2 (1 : Int32)).bind fun q75 =>
  some (q72.1 + (0 : Int32), q75.2)
  else
  (F_X12_must w q69.2 (1 : Int32)).bind fun q79 =>
  some ((0 : Int32), q79.2)
  else
  if a1 = (0 : Int32) then
  if (q1.2.1 137 12) ≤ (0 : Int32) then
  (F_X12_named w q1.2).bind fun q9 =>
  if q1.1 = true then
  (F_X12_must w q9.2 (1 : Int32)).bind fun q14 =>
  some (q9.1 + (6 : Int32), q14.2)
  else
  (F_X12_must w q9.2 (1 : Int32)).bind fun q12 =>
  some (q9.1 + (0 : Int32), q12.2)
  else
  (F_X12_must w q1.2 (1 : Int32)).bind fun q16 =>
  some ((0 : Int32), q16.2)
  else
  (F_X12_fail w q1.2 (5 : Int32) (q1.2.1 137 15)).bind fun q18 =>
  if (q18.2.1 137 12) ≤ (0 : Int32) then
  (F_X12_named w q18.2).bind fun q21 =>
  if q1.1 = true then
  (F_X12_must w q21.2 (1 : Int32)).bind fun q26 =>
  some (q21.1 + (6 : Int32), q26.2)
  else
  (F_X12_must w q21.2 (1 : Int32)).bind fun q24 =>
  some (q21.1 + (0 : Int32), q24.2)
  else
  (F_X12_must w q18.2 (1 : Int32)).bind fun q28 =>
  some ((0 : Int32), q28.2)
set_option maxHeartbeats 4000000 in
theorem A_X12_readLiteral {w : Nat} {M : z_Mem} {a1 : Int32} {r : Int32} {M' : z_Mem} {Q : Option Value → z_Mem → Prop} (h : F_X12_readLiteral w M a1 = some (r, M')) (hq : Q (some (.int r)) M') : z_Cl 5 mX12_readLiteral [.ref 139, .int a1] M Q := by
  refine g_in (ls := [some (.ref 139), some (.int a1), none, none]) rfl ?_
  unfold F_X12_readLiteral at h
  refine g_aload_n dX12_readLiteral_0 rfl rfl ?_
  obtain ⟨q1, e2, h⟩ := z_bd h
  refine g_callV (a := 137) (as := []) (rest := []) (c := mX12_isNot) (k1 := 1) dX12_readLiteral_1 rfl rfl rfl sh_137 rfl rfl (Nat.le_of_ble_eq_true rfl) (Nat.le_of_ble_eq_true rfl) (by decide) ?_
  refine A_X12_isNot e2 ?_
  show z_G none 5 mX12_readLiteral 4 [some (.ref 139), some (.int a1), none, none] [.int (z_tb q1.1)] q1.2 Q
  refine g_istore_n (ls' := [some (.ref 139), some (.int a1), some (.int (z_tb q1.1)), none]) dX12_readLiteral_4 rfl (Nat.le_of_ble_eq_true rfl) rfl ?_
  refine g_iload_n dX12_readLiteral_5 rfl rfl ?_
  refine g_if_eq (t := 22) dX12_readLiteral_6 (by decide) (fun c3 => ?_) (fun c3 => ?_)
  · replace h := z_iff (z_tb0.mp c3) h
    refine g_iload_n dX12_readLiteral_22 rfl rfl ?_
    refine g_if_eq (t := 31) dX12_readLiteral_23 (by decide) (fun c4 => ?_) (fun c4 => ?_)
    · replace h := z_iff (z_tb0.mp c4) h
      refine g_aload_n dX12_readLiteral_31 rfl rfl ?_
      refine g_get (a := 137) (v := .int (q1.2.1 137 12)) dX12_readLiteral_32 f_12_212 sh_137 rfl rfl ?_
      refine g_if_ne (t := 49) dX12_readLiteral_35 (by decide) (fun c5 => ?_) (fun c5 => ?_)
      · replace h := z_iff c5 h
        refine g_aload_n dX12_readLiteral_49 rfl rfl ?_
        refine g_get (a := 137) (v := .int (q1.2.1 137 12)) dX12_readLiteral_50 f_12_212 sh_137 rfl rfl ?_
        refine g_if_ne (t := 72) dX12_readLiteral_53 (by decide) (fun c6 => ?_) (fun c6 => ?_)
        · replace h := z_iff c6 h
          refine g_iload_n dX12_readLiteral_72 rfl rfl ?_
          refine g_if_eq (t := 85) dX12_readLiteral_73 (by decide) (fun c7 => ?_) (fun c7 => ?_)
          · replace h := z_ift c7 h
            refine g_aload_n dX12_readLiteral_85 rfl rfl ?_
            refine g_get (a := 137) (v := .int (q1.2.1 137 12)) dX12_readLiteral_86 f_12_212 sh_137 rfl rfl ?_
            refine g_if_le (t := 96) dX12_readLiteral_89 (by decide) (fun c8 => ?_) (fun c8 => ?_)
            · replace h := z_ift c8 h
              refine g_aload_n dX12_readLiteral_96 rfl rfl ?_
              obtain ⟨q9, e10, h⟩ := z_bd h
              refine g_callV (a := 137) (as := []) (rest := []) (c := mX12_named) (k1 := 0) dX12_readLiteral_97 rfl rfl rfl sh_137 rfl rfl (Nat.le_of_ble_eq_true rfl) (Nat.le_of_ble_eq_true rfl) (by decide) ?_
              refine A_X12_named e10 ?_
              show z_G none 5 mX12_readLiteral 100 [some (.ref 139), some (.int a1), some (.int (z_tb q1.1)), none] [.int q9.1] q9.2 Q
              refine g_iload_n dX12_readLiteral_100 rfl rfl ?_
              refine g_if_eq (t := 109) dX12_readLiteral_101 (by decide) (fun c11 => ?_) (fun c11 => ?_)
              · replace h := z_iff (z_tb0.mp c11) h
                refine g_iconst (v := (0 : Int32)) dX12_readLiteral_109 (by decide) ?_
                refine g_iadd dX12_readLiteral_110 ?_
                refine g_istore_n (ls' := [some (.ref 139), some (.int a1), some (.int (z_tb q1.1)), some (.int (q9.1 + (0 : Int32)))]) dX12_readLiteral_111 rfl (Nat.le_of_ble_eq_true rfl) rfl ?_
                refine g_aload_n dX12_readLiteral_112 rfl rfl ?_
                refine g_iconst (v := (1 : Int32)) dX12_readLiteral_113 (by decide) ?_
                obtain ⟨q12, e13, h⟩ := z_bd h
                refine g_callV (a := 137) (as := [.int (1 : Int32)]) (rest := []) (c := mX12_must) (k1 := 2) dX12_readLiteral_114 rfl rfl rfl sh_137 rfl rfl (Nat.le_of_ble_eq_true rfl) (Nat.le_of_ble_eq_true rfl) (by decide) ?_
                refine A_X12_must e13 ?_
                show z_G none 5 mX12_readLiteral 117 [some (.ref 139), some (.int a1), some (.int (z_tb q1.1)), some (.int (q9.1 + (0 : Int32)))] [] q12.2 Q
                refine g_iload_n dX12_readLiteral_117 rfl rfl ?_
                cases h
                exact g_iret dX12_readLiteral_118 rfl rfl hq
              · replace h := z_ift (z_tbn.mp c11) h
                refine g_bipush (v := (6 : Int32)) dX12_readLiteral_104 (by decide) ?_
                refine g_goto (t := 110) dX12_readLiteral_106 (by decide) ?_
                refine g_iadd dX12_readLiteral_110 ?_
                refine g_istore_n (ls' := [some (.ref 139), some (.int a1), some (.int (z_tb q1.1)), some (.int (q9.1 + (6 : Int32)))]) dX12_readLiteral_111 rfl (Nat.le_of_ble_eq_true rfl) rfl ?_
                refine g_aload_n dX12_readLiteral_112 rfl rfl ?_
                refine g_iconst (v := (1 : Int32)) dX12_readLiteral_113 (by decide) ?_
                obtain ⟨q14, e15, h⟩ := z_bd h
                refine g_callV (a := 137) (as := [.int (1 : Int32)]) (rest := []) (c := mX12_must) (k1 := 2) dX12_readLiteral_114 rfl rfl rfl sh_137 rfl rfl (Nat.le_of_ble_eq_true rfl) (Nat.le_of_ble_eq_true rfl) (by decide) ?_
                refine A_X12_must e15 ?_
                show z_G none 5 mX12_readLiteral 117 [some (.ref 139), some (.int a1), some (.int (z_tb q1.1)), some (.int (q9.1 + (6 : Int32)))] [] q14.2 Q
                refine g_iload_n dX12_readLiteral_117 rfl rfl ?_
                cases h
                exact g_iret dX12_readLiteral_118 rfl rfl hq
            · replace h := z_iff c8 h
              refine g_iconst (v := (0 : Int32)) dX12_readLiteral_92 (by decide) ?_
              refine g_goto (t := 111) dX12_readLiteral_93 (by decide) ?_
              refine g_istore_n (ls' := [some (.ref 139), some (.int a1), some (.int (z_tb q1.1)), some (.int (0 : Int32))]) dX12_readLiteral_111 rfl (Nat.le_of_ble_eq_true rfl) rfl ?_
              refine g_aload_n dX12_readLiteral_112 rfl rfl ?_
              refine g_iconst (v := (1 : Int32)) dX12_readLiteral_113 (by decide) ?_
              obtain ⟨q16, e17, h⟩ := z_bd h
              refine g_callV (a := 137) (as := [.int (1 : Int32)]) (rest := []) (c := mX12_must) (k1 := 2) dX12_readLiteral_114 rfl rfl rfl sh_137 rfl rfl (Nat.le_of_ble_eq_true rfl) (Nat.le_of_ble_eq_true rfl) (by decide) ?_
              refine A_X12_must e17 ?_
              show z_G none 5 mX12_readLiteral 117 [some (.ref 139), some (.int a1), some (.int (z_tb q1.1)), some (.int (0 : Int32))] [] q16.2 Q
              refine g_iload_n dX12_readLiteral_117 rfl rfl ?_
              cases h
              exact g_iret dX12_readLiteral_118 rfl rfl hq
          · replace h := z_iff c7 h
            refine g_aload_n dX12_readLiteral_76 rfl rfl ?_
            refine g_iconst (v := (5 : Int32)) dX12_readLiteral_77 (by decide) ?_
            refine g_aload_n dX12_readLiteral_78 rfl rfl ?_
            refine g_get (a := 137) (v := .int (q1.2.1 137 15)) dX12_readLiteral_79 f_12_106 sh_137 rfl rfl ?_
            obtain ⟨q18, e19, h⟩ := z_bd h
            refine g_callV (a := 137) (as := [.int (5 : Int32), .int (q1.2.1 137 15)]) (rest := []) (c := mX12_fail) (k1 := 0) dX12_readLiteral_82 rfl rfl rfl sh_137 rfl rfl (Nat.le_of_ble_eq_true rfl) (Nat.le_of_ble_eq_true rfl) (by decide) ?_
            refine A_X12_fail e19 ?_
            show z_G none 5 mX12_readLiteral 85 [some (.ref 139), some (.int a1), some (.int (z_tb q1.1)), none] [] q18.2 Q
            refine g_aload_n dX12_readLiteral_85 rfl rfl ?_
            refine g_get (a := 137) (v := .int (q18.2.1 137 12)) dX12_readLiteral_86 f_12_212 sh_137 rfl rfl ?_
            refine g_if_le (t := 96) dX12_readLiteral_89 (by decide) (fun c20 => ?_) (fun c20 => ?_)
            · replace h := z_ift c20 h
              refine g_aload_n dX12_readLiteral_96 rfl rfl ?_
              obtain ⟨q21, e22, h⟩ := z_bd h
              refine g_callV (a := 137) (as := []) (rest := []) (c := mX12_named) (k1 := 0) dX12_readLiteral_97 rfl rfl rfl sh_137 rfl rfl (Nat.le_of_ble_eq_true rfl) (Nat.le_of_ble_eq_true rfl) (by decide) ?_
              refine A_X12_named e22 ?_
              show z_G none 5 mX12_readLiteral 100 [some (.ref 139), some (.int a1), some (.int (z_tb q1.1)), none] [.int q21.1] q21.2 Q
              refine g_iload_n dX12_readLiteral_100 rfl rfl ?_
              refine g_if_eq (t := 109) dX12_readLiteral_101 (by decide) (fun c23 => ?_) (fun c23 => ?_)
              · replace h := z_iff (z_tb0.mp c23) h
                refine g_iconst (v := (0 : Int32)) dX12_readLiteral_109 (by decide) ?_
                refine g_iadd dX12_readLiteral_110 ?_
                refine g_istore_n (ls' := [some (.ref 139), some (.int a1), some (.int (z_tb q1.1)), some (.int (q21.1 + (0 : Int32)))]) dX12_readLiteral_111 rfl (Nat.le_of_ble_eq_true rfl) rfl ?_
                refine g_aload_n dX12_readLiteral_112 rfl rfl ?_
                refine g_iconst (v := (1 : Int32)) dX12_readLiteral_113 (by decide) ?_
                obtain ⟨q24, e25, h⟩ := z_bd h
                refine g_callV (a := 137) (as := [.int (1 : Int32)]) (rest := []) (c := mX12_must) (k1 := 2) dX12_readLiteral_114 rfl rfl rfl sh_137 rfl rfl (Nat.le_of_ble_eq_true rfl) (Nat.le_of_ble_eq_true rfl) (by decide) ?_
                refine A_X12_must e25 ?_
                show z_G none 5 mX12_readLiteral 117 [some (.ref 139), some (.int a1), some (.int (z_tb q1.1)), some (.int (q21.1 + (0 : Int32)))] [] q24.2 Q
                refine g_iload_n dX12_readLiteral_117 rfl rfl ?_
                cases h
                exact g_iret dX12_readLiteral_118 rfl rfl hq
              · replace h := z_ift (z_tbn.mp c23) h
                refine g_bipush (v := (6 : Int32)) dX12_readLiteral_104 (by decide) ?_
                refine g_goto (t := 110) dX12_readLiteral_106 (by decide) ?_
                refine g_iadd dX12_readLiteral_110 ?_
                refine g_istore_n (ls' := [some (.ref 139), some (.int a1), some (.int (z_tb q1.1)), some (.int (q21.1 + (6 : Int32)))]) dX12_readLiteral_111 rfl (Nat.le_of_ble_eq_true rfl) rfl ?_
                refine g_aload_n dX12_readLiteral_112 rfl rfl ?_
                refine g_iconst (v := (1 : Int32)) dX12_readLiteral_113 (by decide) ?_
                obtain ⟨q26, e27, h⟩ := z_bd h
                refine g_callV (a := 137) (as := [.int (1 : Int32)]) (rest := []) (c := mX12_must) (k1 := 2) dX12_readLiteral_114 rfl rfl rfl sh_137 rfl rfl (Nat.le_of_ble_eq_true rfl) (Nat.le_of_ble_eq_true rfl) (by decide) ?_
                refine A_X12_must e27 ?_
                show z_G none 5 mX12_readLiteral 117 [some (.ref 139), some (.int a1), some (.int (z_tb q1.1)), some (.int (q21.1 + (6 : Int32)))] [] q26.2 Q
                refine g_iload_n dX12_readLiteral_117 rfl rfl ?_
                cases h
                exact g_iret dX12_readLiteral_118 rfl rfl hq
            · replace h := z_iff c20 h
              refine g_iconst (v := (0 : Int32)) dX12_readLiteral_92 (by decide) ?_
              refine g_goto (t := 111) dX12_readLiteral_93 (by decide) ?_
              refine g_istore_n (ls' := [some (.ref 139), some (.int a1), some (.int (z_tb q1.1)), some (.int (0 : Int32))]) dX12_readLiteral_111 rfl (Nat.le_of_ble_eq_true rfl) rfl ?_
              refine g_aload_n dX12_readLiteral_112 rfl rfl ?_
              refine g_iconst (v := (1 : Int32)) dX12_readLiteral_113 (by decide) ?_
              obtain ⟨q28, e29, h⟩ := z_bd h
              refine g_callV (a := 137) (as := [.int (1 : Int32)]) (rest := []) (c := mX12_must) (k1 := 2) dX12_readLiteral_114 rfl rfl rfl sh_137 rfl rfl (Nat.le_of_ble_eq_true rfl) (Nat.le_of_ble_eq_true rfl) (by decide) ?_
              refine A_X12_must e29 ?_
              show z_G none 5 mX12_readLiteral 117 [some (.ref 139), some (.int a1), some (.int (z_tb q1.1)), some (.int (0 : Int32))] [] q28.2 Q
              refine g_iload_n dX12_readLiteral_117 rfl rfl ?_
              cases h
              exact g_iret dX12_readLiteral_118 rfl rfl hq
        · replace h := z_ift c6 h
          refine g_aload_n dX12_readLiteral_56 rfl rfl ?_
          obtain ⟨q30, e31, h⟩ := z_bd h
          refine g_callV (a := 137) (as := []) (rest := []) (c := mX12_named) (k1 := 0) dX12_readLiteral_57 rfl rfl rfl sh_137 rfl rfl (Nat.le_of_ble_eq_true rfl) (Nat.le_of_ble_eq_true rfl) (by decide) ?_
          refine A_X12_named e31 ?_
          show z_G none 5 mX12_readLiteral 60 [some (.ref 139), some (.int a1), some (.int (z_tb q1.1)), none] [.int q30.1] q30.2 Q
          refine g_if_ge (t := 72) dX12_readLiteral_60 (by decide) (fun c32 => ?_) (fun c32 => ?_)
          · replace h := z_ift c32 h
            refine g_iload_n dX12_readLiteral_72 rfl rfl ?_
            refine g_if_eq (t := 85) dX12_readLiteral_73 (by decide) (fun c33 => ?_) (fun c33 => ?_)
            · replace h := z_ift c33 h
              refine g_aload_n dX12_readLiteral_85 rfl rfl ?_
              refine g_get (a := 137) (v := .int (q30.2.1 137 12)) dX12_readLiteral_86 f_12_212 sh_137 rfl rfl ?_
              refine g_if_le (t := 96) dX12_readLiteral_89 (by decide) (fun c34 => ?_) (fun c34 => ?_)
              · replace h := z_ift c34 h
                refine g_aload_n dX12_readLiteral_96 rfl rfl ?_
                obtain ⟨q35, e36, h⟩ := z_bd h
                refine g_callV (a := 137) (as := []) (rest := []) (c := mX12_named) (k1 := 0) dX12_readLiteral_97 rfl rfl rfl sh_137 rfl rfl (Nat.le_of_ble_eq_true rfl) (Nat.le_of_ble_eq_true rfl) (by decide) ?_
                refine A_X12_named e36 ?_
                show z_G none 5 mX12_readLiteral 100 [some (.ref 139), some (.int a1), some (.int (z_tb q1.1)), none] [.int q35.1] q35.2 Q
                refine g_iload_n dX12_readLiteral_100 rfl rfl ?_
                refine g_if_eq (t := 109) dX12_readLiteral_101 (by decide) (fun c37 => ?_) (fun c37 => ?_)
                · replace h := z_iff (z_tb0.mp c37) h
                  refine g_iconst (v := (0 : Int32)) dX12_readLiteral_109 (by decide) ?_
                  refine g_iadd dX12_readLiteral_110 ?_
                  refine g_istore_n (ls' := [some (.ref 139), some (.int a1), some (.int (z_tb q1.1)), some (.int (q35.1 + (0 : Int32)))]) dX12_readLiteral_111 rfl (Nat.le_of_ble_eq_true rfl) rfl ?_
                  refine g_aload_n dX12_readLiteral_112 rfl rfl ?_
                  refine g_iconst (v := (1 : Int32)) dX12_readLiteral_113 (by decide) ?_
                  obtain ⟨q38, e39, h⟩ := z_bd h
                  refine g_callV (a := 137) (as := [.int (1 : Int32)]) (rest := []) (c := mX12_must) (k1 := 2) dX12_readLiteral_114 rfl rfl rfl sh_137 rfl rfl (Nat.le_of_ble_eq_true rfl) (Nat.le_of_ble_eq_true rfl) (by decide) ?_
                  refine A_X12_must e39 ?_
                  show z_G none 5 mX12_readLiteral 117 [some (.ref 139), some (.int a1), some (.int (z_tb q1.1)), some (.int (q35.1 + (0 : Int32)))] [] q38.2 Q
                  refine g_iload_n dX12_readLiteral_117 rfl rfl ?_
                  cases h
                  exact g_iret dX12_readLiteral_118 rfl rfl hq
                · replace h := z_ift (z_tbn.mp c37) h
                  refine g_bipush (v := (6 : Int32)) dX12_readLiteral_104 (by decide) ?_
                  refine g_goto (t := 110) dX12_readLiteral_106 (by decide) ?_
                  refine g_iadd dX12_readLiteral_110 ?_
                  refine g_istore_n (ls' := [some (.ref 139), some (.int a1), some (.int (z_tb q1.1)), some (.int (q35.1 + (6 : Int32)))]) dX12_readLiteral_111 rfl (Nat.le_of_ble_eq_true rfl) rfl ?_
                  refine g_aload_n dX12_readLiteral_112 rfl rfl ?_
                  refine g_iconst (v := (1 : Int32)) dX12_readLiteral_113 (by decide) ?_
                  obtain ⟨q40, e41, h⟩ := z_bd h
                  refine g_callV (a := 137) (as := [.int (1 : Int32)]) (rest := []) (c := mX12_must) (k1 := 2) dX12_readLiteral_114 rfl rfl rfl sh_137 rfl rfl (Nat.le_of_ble_eq_true rfl) (Nat.le_of_ble_eq_true rfl) (by decide) ?_
                  refine A_X12_must e41 ?_
                  show z_G none 5 mX12_readLiteral 117 [some (.ref 139), some (.int a1), some (.int (z_tb q1.1)), some (.int (q35.1 + (6 : Int32)))] [] q40.2 Q
                  refine g_iload_n dX12_readLiteral_117 rfl rfl ?_
                  cases h
                  exact g_iret dX12_readLiteral_118 rfl rfl hq
              · replace h := z_iff c34 h
                refine g_iconst (v := (0 : Int32)) dX12_readLiteral_92 (by decide) ?_
                refine g_goto (t := 111) dX12_readLiteral_93 (by decide) ?_
                refine g_istore_n (ls' := [some (.ref 139), some (.int a1), some (.int (z_tb q1.1)), some (.int (0 : Int32))]) dX12_readLiteral_111 rfl (Nat.le_of_ble_eq_true rfl) rfl ?_
                refine g_aload_n dX12_readLiteral_112 rfl rfl ?_
                refine g_iconst (v := (1 : Int32)) dX12_readLiteral_113 (by decide) ?_
                obtain ⟨q42, e43, h⟩ := z_bd h
                refine g_callV (a := 137) (as := [.int (1 : Int32)]) (rest := []) (c := mX12_must) (k1 := 2) dX12_readLiteral_114 rfl rfl rfl sh_137 rfl rfl (Nat.le_of_ble_eq_true rfl) (Nat.le_of_ble_eq_true rfl) (by decide) ?_
                refine A_X12_must e43 ?_
                show z_G none 5 mX12_readLiteral 117 [some (.ref 139), some (.int a1), some (.int (z_tb q1.1)), some (.int (0 : Int32))] [] q42.2 Q
                refine g_iload_n dX12_readLiteral_117 rfl rfl ?_
                cases h
                exact g_iret dX12_readLiteral_118 rfl rfl hq
            · replace h := z_iff c33 h
              refine g_aload_n dX12_readLiteral_76 rfl rfl ?_
              refine g_iconst (v := (5 : Int32)) dX12_readLiteral_77 (by decide) ?_
              refine g_aload_n dX12_readLiteral_78 rfl rfl ?_
              refine g_get (a := 137) (v := .int (q30.2.1 137 15)) dX12_readLiteral_79 f_12_106 sh_137 rfl rfl ?_
              obtain ⟨q44, e45, h⟩ := z_bd h
              refine g_callV (a := 137) (as := [.int (5 : Int32), .int (q30.2.1 137 15)]) (rest := []) (c := mX12_fail) (k1 := 0) dX12_readLiteral_82 rfl rfl rfl sh_137 rfl rfl (Nat.le_of_ble_eq_true rfl) (Nat.le_of_ble_eq_true rfl) (by decide) ?_
              refine A_X12_fail e45 ?_
              show z_G none 5 mX12_readLiteral 85 [some (.ref 139), some (.int a1), some (.int (z_tb q1.1)), none] [] q44.2 Q
              refine g_aload_n dX12_readLiteral_85 rfl rfl ?_
              refine g_get (a := 137) (v := .int (q44.2.1 137 12)) dX12_readLiteral_86 f_12_212 sh_137 rfl rfl ?_
              refine g_if_le (t := 96) dX12_readLiteral_89 (by decide) (fun c46 => ?_) (fun c46 => ?_)
              · replace h := z_ift c46 h
                refine g_aload_n dX12_readLiteral_96 rfl rfl ?_
                obtain ⟨q47, e48, h⟩ := z_bd h
                refine g_callV (a := 137) (as := []) (rest := []) (c := mX12_named) (k1 := 0) dX12_readLiteral_97 rfl rfl rfl sh_137 rfl rfl (Nat.le_of_ble_eq_true rfl) (Nat.le_of_ble_eq_true rfl) (by decide) ?_
                refine A_X12_named e48 ?_
                show z_G none 5 mX12_readLiteral 100 [some (.ref 139), some (.int a1), some (.int (z_tb q1.1)), none] [.int q47.1] q47.2 Q
                refine g_iload_n dX12_readLiteral_100 rfl rfl ?_
                refine g_if_eq (t := 109) dX12_readLiteral_101 (by decide) (fun c49 => ?_) (fun c49 => ?_)
                · replace h := z_iff (z_tb0.mp c49) h
                  refine g_iconst (v := (0 : Int32)) dX12_readLiteral_109 (by decide) ?_
                  refine g_iadd dX12_readLiteral_110 ?_
                  refine g_istore_n (ls' := [some (.ref 139), some (.int a1), some (.int (z_tb q1.1)), some (.int (q47.1 + (0 : Int32)))]) dX12_readLiteral_111 rfl (Nat.le_of_ble_eq_true rfl) rfl ?_
                  refine g_aload_n dX12_readLiteral_112 rfl rfl ?_
                  refine g_iconst (v := (1 : Int32)) dX12_readLiteral_113 (by decide) ?_
                  obtain ⟨q50, e51, h⟩ := z_bd h
                  refine g_callV (a := 137) (as := [.int (1 : Int32)]) (rest := []) (c := mX12_must) (k1 := 2) dX12_readLiteral_114 rfl rfl rfl sh_137 rfl rfl (Nat.le_of_ble_eq_true rfl) (Nat.le_of_ble_eq_true rfl) (by decide) ?_
                  refine A_X12_must e51 ?_
                  show z_G none 5 mX12_readLiteral 117 [some (.ref 139), some (.int a1), some (.int (z_tb q1.1)), some (.int (q47.1 + (0 : Int32)))] [] q50.2 Q
                  refine g_iload_n dX12_readLiteral_117 rfl rfl ?_
                  cases h
                  exact g_iret dX12_readLiteral_118 rfl rfl hq
                · replace h := z_ift (z_tbn.mp c49) h
                  refine g_bipush (v := (6 : Int32)) dX12_readLiteral_104 (by decide) ?_
                  refine g_goto (t := 110) dX12_readLiteral_106 (by decide) ?_
                  refine g_iadd dX12_readLiteral_110 ?_
                  refine g_istore_n (ls' := [some (.ref 139), some (.int a1), some (.int (z_tb q1.1)), some (.int (q47.1 + (6 : Int32)))]) dX12_readLiteral_111 rfl (Nat.le_of_ble_eq_true rfl) rfl ?_
                  refine g_aload_n dX12_readLiteral_112 rfl rfl ?_
                  refine g_iconst (v := (1 : Int32)) dX12_readLiteral_113 (by decide) ?_
                  obtain ⟨q52, e53, h⟩ := z_bd h
                  refine g_callV (a := 137) (as := [.int (1 : Int32)]) (rest := []) (c := mX12_must) (k1 := 2) dX12_readLiteral_114 rfl rfl rfl sh_137 rfl rfl (Nat.le_of_ble_eq_true rfl) (Nat.le_of_ble_eq_true rfl) (by decide) ?_
                  refine A_X12_must e53 ?_
                  show z_G none 5 mX12_readLiteral 117 [some (.ref 139), some (.int a1), some (.int (z_tb q1.1)), some (.int (q47.1 + (6 : Int32)))] [] q52.2 Q
                  refine g_iload_n dX12_readLiteral_117 rfl rfl ?_
                  cases h
                  exact g_iret dX12_readLiteral_118 rfl rfl hq
              · replace h := z_iff c46 h
                refine g_iconst (v := (0 : Int32)) dX12_readLiteral_92 (by decide) ?_
                refine g_goto (t := 111) dX12_readLiteral_93 (by decide) ?_
                refine g_istore_n (ls' := [some (.ref 139), some (.int a1), some (.int (z_tb q1.1)), some (.int (0 : Int32))]) dX12_readLiteral_111 rfl (Nat.le_of_ble_eq_true rfl) rfl ?_
                refine g_aload_n dX12_readLiteral_112 rfl rfl ?_
                refine g_iconst (v := (1 : Int32)) dX12_readLiteral_113 (by decide) ?_
                obtain ⟨q54, e55, h⟩ := z_bd h
                refine g_callV (a := 137) (as := [.int (1 : Int32)]) (rest := []) (c := mX12_must) (k1 := 2) dX12_readLiteral_114 rfl rfl rfl sh_137 rfl rfl (Nat.le_of_ble_eq_true rfl) (Nat.le_of_ble_eq_true rfl) (by decide) ?_
                refine A_X12_must e55 ?_
                show z_G none 5 mX12_readLiteral 117 [some (.ref 139), some (.int a1), some (.int (z_tb q1.1)), some (.int (0 : Int32))] [] q54.2 Q
                refine g_iload_n dX12_readLiteral_117 rfl rfl ?_
                cases h
                exact g_iret dX12_readLiteral_118 rfl rfl hq
          · replace h := z_iff c32 h
            refine g_aload_n dX12_readLiteral_63 rfl rfl ?_
            refine g_iconst (v := (3 : Int32)) dX12_readLiteral_64 (by decide) ?_
            refine g_aload_n dX12_readLiteral_65 rfl rfl ?_
            refine g_get (a := 137) (v := .int (q30.2.1 137 15)) dX12_readLiteral_66 f_12_106 sh_137 rfl rfl ?_
            obtain ⟨q56, e57, h⟩ := z_bd h
            refine g_callV (a := 137) (as := [.int (3 : Int32), .int (q30.2.1 137 15)]) (rest := []) (c := mX12_fail) (k1 := 0) dX12_readLiteral_69 rfl rfl rfl sh_137 rfl rfl (Nat.le_of_ble_eq_true rfl) (Nat.le_of_ble_eq_true rfl) (by decide) ?_
            refine A_X12_fail e57 ?_
            show z_G none 5 mX12_readLiteral 72 [some (.ref 139), some (.int a1), some (.int (z_tb q1.1)), none] [] q56.2 Q
            refine g_iload_n dX12_readLiteral_72 rfl rfl ?_
            refine g_if_eq (t := 85) dX12_readLiteral_73 (by decide) (fun c58 => ?_) (fun c58 => ?_)
            · replace h := z_ift c58 h
              refine g_aload_n dX12_readLiteral_85 rfl rfl ?_
              refine g_get (a := 137) (v := .int (q56.2.1 137 12)) dX12_readLiteral_86 f_12_212 sh_137 rfl rfl ?_
              refine g_if_le (t := 96) dX12_readLiteral_89 (by decide) (fun c59 => ?_) (fun c59 => ?_)
              · replace h := z_ift c59 h
                refine g_aload_n dX12_readLiteral_96 rfl rfl ?_
                obtain ⟨q60, e61, h⟩ := z_bd h
                refine g_callV (a := 137) (as := []) (rest := []) (c := mX12_named) (k1 := 0) dX12_readLiteral_97 rfl rfl rfl sh_137 rfl rfl (Nat.le_of_ble_eq_true rfl) (Nat.le_of_ble_eq_true rfl) (by decide) ?_
                refine A_X12_named e61 ?_
                show z_G none 5 mX12_readLiteral 100 [some (.ref 139), some (.int a1), some (.int (z_tb q1.1)), none] [.int q60.1] q60.2 Q
                refine g_iload_n dX12_readLiteral_100 rfl rfl ?_
                refine g_if_eq (t := 109) dX12_readLiteral_101 (by decide) (fun c62 => ?_) (fun c62 => ?_)
                · replace h := z_iff (z_tb0.mp c62) h
                  refine g_iconst (v := (0 : Int32)) dX12_readLiteral_109 (by decide) ?_
                  refine g_iadd dX12_readLiteral_110 ?_
                  refine g_istore_n (ls' := [some (.ref 139), some (.int a1), some (.int (z_tb q1.1)), some (.int (q60.1 + (0 : Int32)))]) dX12_readLiteral_111 rfl (Nat.le_of_ble_eq_true rfl) rfl ?_
                  refine g_aload_n dX12_readLiteral_112 rfl rfl ?_
                  refine g_iconst (v := (1 : Int32)) dX12_readLiteral_113 (by decide) ?_
                  obtain ⟨q63, e64, h⟩ := z_bd h
                  refine g_callV (a := 137) (as := [.int (1 : Int32)]) (rest := []) (c := mX12_must) (k1 := 2) dX12_readLiteral_114 rfl rfl rfl sh_137 rfl rfl (Nat.le_of_ble_eq_true rfl) (Nat.le_of_ble_eq_true rfl) (by decide) ?_
                  refine A_X12_must e64 ?_
                  show z_G none 5 mX12_readLiteral 117 [some (.ref 139), some (.int a1), some (.int (z_tb q1.1)), some (.int (q60.1 + (0 : Int32)))] [] q63.2 Q
                  refine g_iload_n dX12_readLiteral_117 rfl rfl ?_
                  cases h
                  exact g_iret dX12_readLiteral_118 rfl rfl hq
                · replace h := z_ift (z_tbn.mp c62) h
                  refine g_bipush (v := (6 : Int32)) dX12_readLiteral_104 (by decide) ?_
                  refine g_goto (t := 110) dX12_readLiteral_106 (by decide) ?_
                  refine g_iadd dX12_readLiteral_110 ?_
                  refine g_istore_n (ls' := [some (.ref 139), some (.int a1), some (.int (z_tb q1.1)), some (.int (q60.1 + (6 : Int32)))]) dX12_readLiteral_111 rfl (Nat.le_of_ble_eq_true rfl) rfl ?_
                  refine g_aload_n dX12_readLiteral_112 rfl rfl ?_
                  refine g_iconst (v := (1 : Int32)) dX12_readLiteral_113 (by decide) ?_
                  obtain ⟨q65, e66, h⟩ := z_bd h
                  refine g_callV (a := 137) (as := [.int (1 : Int32)]) (rest := []) (c := mX12_must) (k1 := 2) dX12_readLiteral_114 rfl rfl rfl sh_137 rfl rfl (Nat.le_of_ble_eq_true rfl) (Nat.le_of_ble_eq_true rfl) (by decide) ?_
                  refine A_X12_must e66 ?_
                  show z_G none 5 mX12_readLiteral 117 [some (.ref 139), some (.int a1), some (.int (z_tb q1.1)), some (.int (q60.1 + (6 : Int32)))] [] q65.2 Q
                  refine g_iload_n dX12_readLiteral_117 rfl rfl ?_
                  cases h
                  exact g_iret dX12_readLiteral_118 rfl rfl hq
              · replace h := z_iff c59 h
                refine g_iconst (v := (0 : Int32)) dX12_readLiteral_92 (by decide) ?_
                refine g_goto (t := 111) dX12_readLiteral_93 (by decide) ?_
                refine g_istore_n (ls' := [some (.ref 139), some (.int a1), some (.int (z_tb q1.1)), some (.int (0 : Int32))]) dX12_readLiteral_111 rfl (Nat.le_of_ble_eq_true rfl) rfl ?_
                refine g_aload_n dX12_readLiteral_112 rfl rfl ?_
                refine g_iconst (v := (1 : Int32)) dX12_readLiteral_113 (by decide) ?_
                obtain ⟨q67, e68, h⟩ := z_bd h
                refine g_callV (a := 137) (as := [.int (1 : Int32)]) (rest := []) (c := mX12_must) (k1 := 2) dX12_readLiteral_114 rfl rfl rfl sh_137 rfl rfl (Nat.le_of_ble_eq_true rfl) (Nat.le_of_ble_eq_true rfl) (by decide) ?_
                refine A_X12_must e68 ?_
                show z_G none 5 mX12_readLiteral 117 [some (.ref 139), some (.int a1), some (.int (z_tb q1.1)), some (.int (0 : Int32))] [] q67.2 Q
                refine g_iload_n dX12_readLiteral_117 rfl rfl ?_
                cases h
                exact g_iret dX12_readLiteral_118 rfl rfl hq
            · replace h := z_iff c58 h
              refine g_aload_n dX12_readLiteral_76 rfl rfl ?_
              refine g_iconst (v := (5 : Int32)) dX12_readLiteral_77 (by decide) ?_
              refine g_aload_n dX12_readLiteral_78 rfl rfl ?_
              refine g_get (a := 137) (v := .int (q56.2.1 137 15)) dX12_readLiteral_79 f_12_106 sh_137 rfl rfl ?_
              obtain ⟨q69, e70, h⟩ := z_bd h
              refine g_callV (a := 137) (as := [.int (5 : Int32), .int (q56.2.1 137 15)]) (rest := []) (c := mX12_fail) (k1 := 0) dX12_readLiteral_82 rfl rfl rfl sh_137 rfl rfl (Nat.le_of_ble_eq_true rfl) (Nat.le_of_ble_eq_true rfl) (by decide) ?_
              refine A_X12_fail e70 ?_
              show z_G none 5 mX12_readLiteral 85 [some (.ref 139), some (.int a1), some (.int (z_tb q1.1)), none] [] q69.2 Q
              refine g_aload_n dX12_readLiteral_85 rfl rfl ?_
              refine g_get (a := 137) (v := .int (q69.2.1 137 12)) dX12_readLiteral_86 f_12_212 sh_137 rfl rfl ?_
              refine g_if_le (t := 96) dX12_readLiteral_89 (by decide) (fun c71 => ?_) (fun c71 => ?_)
              · replace h := z_ift c71 h
                refine g_aload_n dX12_readLiteral_96 rfl rfl ?_
                obtain ⟨q72, e73, h⟩ := z_bd h
                refine g_callV (a := 137) (as := []) (rest := []) (c := mX12_named) (k1 := 0) dX12_readLiteral_97 rfl rfl rfl sh_137 rfl rfl (Nat.le_of_ble_eq_true rfl) (Nat.le_of_ble_eq_true rfl) (by decide) ?_
                refine A_X12_named e73 ?_
                show z_G none 5 mX12_readLiteral 100 [some (.ref 139), some (.int a1), some (.int (z_tb q1.1)), none] [.int q72.1] q72.2 Q
                refine g_iload_n dX12_readLiteral_100 rfl rfl ?_
                refine g_if_eq (t := 109) dX12_readLiteral_101 (by decide) (fun c74 => ?_) (fun c74 => ?_)
                · replace h := z_iff (z_tb0.mp c74) h
                  refine g_iconst (v := (0 : Int32)) dX12_readLiteral_109 (by decide) ?_
                  refine g_iadd dX12_readLiteral_110 ?_
                  refine g_istore_n (ls' := [some (.ref 139), some (.int a1), some (.int (z_tb q1.1)), some (.int (q72.1 + (0 : Int32)))]) dX12_readLiteral_111 rfl (Nat.le_of_ble_eq_true rfl) rfl ?_
                  refine g_aload_n dX12_readLiteral_112 rfl rfl ?_
                  refine g_iconst (v := (1 : Int32)) dX12_readLiteral_113 (by decide) ?_
                  obtain ⟨q75, e76, h⟩ := z_bd h
                  refine g_callV (a := 137) (as := [.int (1 : Int32)]) (rest := []) (c := mX12_must) (k1 := 2) dX12_readLiteral_114 rfl rfl rfl sh_137 rfl rfl (Nat.le_of_ble_eq_true rfl) (Nat.le_of_ble_eq_true rfl) (by decide) ?_
                  refine A_X12_must e76 ?_
                  show z_G none 5 mX12_readLiteral 117 [some (.ref 139), some (.int a1), some (.int (z_tb q1.1)), some (.int (q72.1 + (0 : Int32)))] [] q75.2 Q
                  refine g_iload_n dX12_readLiteral_117 rfl rfl ?_
                  cases h
                  exact g_iret dX12_readLiteral_118 rfl rfl hq
                · replace h := z_ift (z_tbn.mp c74) h
                  refine g_bipush (v := (6 : Int32)) dX12_readLiteral_104 (by decide) ?_
                  refine g_goto (t := 110) dX12_readLiteral_106 (by decide) ?_
                  refine g_iadd dX12_readLiteral_110 ?_
                  refine g_istore_n (ls' := [some (.ref 139), some (.int a1), some (.int (z_tb q1.1)), some (.int (q72.1 + (6 : Int32)))]) dX12_readLiteral_111 rfl (Nat.le_of_ble_eq_true rfl) rfl ?_
                  refine g_aload_n dX12_readLiteral_112 rfl rfl ?_
                  refine g_iconst (v := (1 : Int32)) dX12_readLiteral_113 (by decide) ?_
                  obtain ⟨q77, e78, h⟩ := z_bd h
                  refine g_callV (a := 137) (as := [.int (1 : Int32)]) (rest := []) (c := mX12_must) (k1 := 2) dX12_readLiteral_114 rfl rfl rfl sh_137 rfl rfl (Nat.le_of_ble_eq_true rfl) (Nat.le_of_ble_eq_true rfl) (by decide) ?_
                  refine A_X12_must e78 ?_
                  show z_G none 5 mX12_readLiteral 117 [some (.ref 139), some (.int a1), some (.int (z_tb q1.1)), some (.int (q72.1 + (6 : Int32)))] [] q77.2 Q
                  refine g_iload_n dX12_readLiteral_117 rfl rfl ?_
                  cases h
                  exact g_iret dX12_readLiteral_118 rfl rfl hq
              · replace h := z_iff c71 h
                refine g_iconst (v := (0 : Int32)) dX12_readLiteral_92 (by decide) ?_
                refine g_goto (t := 111) dX12_readLiteral_93 (by decide) ?_
                refine g_istore_n (ls' := [some (.ref 139), some (.int a1), some (.int (z_tb q1.1)), some (.int (0 : Int32))]) dX12_readLiteral_111 rfl (Nat.le_of_ble_eq_true rfl) rfl ?_
                refine g_aload_n dX12_readLiteral_112 rfl rfl ?_
                refine g_iconst (v := (1 : Int32)) dX12_readLiteral_113 (by decide) ?_
                obtain ⟨q79, e80, h⟩ := z_bd h
                refine g_callV (a := 137) (as := [.int (1 : Int32)]) (rest := []) (c := mX12_must) (k1 := 2) dX12_readLiteral_114 rfl rfl rfl sh_137 rfl rfl (Nat.le_of_ble_eq_true rfl) (Nat.le_of_ble_eq_true rfl) (by decide) ?_
                refine A_X12_must e80 ?_
                show z_G none 5 mX12_readLiteral 117 [some (.ref 139), some (.int a1), some (.int (z_tb q1.1)), some (.int (0 : Int32))] [] q79.2 Q
                refine g_iload_n dX12_readLiteral_117 rfl rfl ?_
                cases h
                exact g_iret dX12_readLiteral_118 rfl rfl hq
      · replace h := z_ift c5 h
        refine g_aload_n dX12_readLiteral_38 rfl rfl ?_
        obtain ⟨q81, e82, h⟩ := z_bd h
        refine g_callV (a := 137) (as := []) (rest := []) (c := mX12_isName) (k1 := 4) dX12_readLiteral_39 rfl rfl rfl sh_137 rfl rfl (Nat.le_of_ble_eq_true rfl) (Nat.le_of_ble_eq_true rfl) (by decide) ?_
        refine A_X12_isName e82 ?_
        show z_G none 5 mX12_readLiteral 42 [some (.ref 139), some (.int a1), some (.int (z_tb q1.1)), none] [.int (z_tb q81.1)] q81.2 Q
        refine g_if_ne (t := 49) dX12_readLiteral_42 (by decide) (fun c83 => ?_) (fun c83 => ?_)
        · replace h := z_ift (z_tbn.mp c83) h
          refine g_aload_n dX12_readLiteral_49 rfl rfl ?_
          refine g_get (a := 137) (v := .int (q81.2.1 137 12)) dX12_readLiteral_50 f_12_212 sh_137 rfl rfl ?_
          refine g_if_ne (t := 72) dX12_readLiteral_53 (by decide) (fun c84 => ?_) (fun c84 => ?_)
          · replace h := z_iff c84 h
            refine g_iload_n dX12_readLiteral_72 rfl rfl ?_
            refine g_if_eq (t := 85) dX12_readLiteral_73 (by decide) (fun c85 => ?_) (fun c85 => ?_)
            · replace h := z_ift c85 h
              refine g_aload_n dX12_readLiteral_85 rfl rfl ?_
              refine g_get (a := 137) (v := .int (q81.2.1 137 12)) dX12_readLiteral_86 f_12_212 sh_137 rfl rfl ?_
              refine g_if_le (t := 96) dX12_readLiteral_89 (by decide) (fun c86 => ?_) (fun c86 => ?_)
              · replace h := z_ift c86 h
                refine g_aload_n dX12_readLiteral_96 rfl rfl ?_
                obtain ⟨q87, e88, h⟩ := z_bd h
                refine g_callV (a := 137) (as := []) (rest := []) (c := mX12_named) (k1 := 0) dX12_readLiteral_97 rfl rfl rfl sh_137 rfl rfl (Nat.le_of_ble_eq_true rfl) (Nat.le_of_ble_eq_true rfl) (by decide) ?_
                refine A_X12_named e88 ?_
                show z_G none 5 mX12_readLiteral 100 [some (.ref 139), some (.int a1), some (.int (z_tb q1.1)), none] [.int q87.1] q87.2 Q
                refine g_iload_n dX12_readLiteral_100 rfl rfl ?_
                refine g_if_eq (t := 109) dX12_readLiteral_101 (by decide) (fun c89 => ?_) (fun c89 => ?_)
                · replace h := z_iff (z_tb0.mp c89) h
                  refine g_iconst (v := (0 : Int32)) dX12_readLiteral_109 (by decide) ?_
                  refine g_iadd dX12_readLiteral_110 ?_
                  refine g_istore_n (ls' := [some (.ref 139), some (.int a1), some (.int (z_tb q1.1)), some (.int (q87.1 + (0 : Int32)))]) dX12_readLiteral_111 rfl (Nat.le_of_ble_eq_true rfl) rfl ?_
                  refine g_aload_n dX12_readLiteral_112 rfl rfl ?_
                  refine g_iconst (v := (1 : Int32)) dX12_readLiteral_113 (by decide) ?_
                  obtain ⟨q90, e91, h⟩ := z_bd h
                  refine g_callV (a := 137) (as := [.int (1 : Int32)]) (rest := []) (c := mX12_must) (k1 := 2) dX12_readLiteral_114 rfl rfl rfl sh_137 rfl rfl (Nat.le_of_ble_eq_true rfl) (Nat.le_of_ble_eq_true rfl) (by decide) ?_
                  refine A_X12_must e91 ?_
                  show z_G none 5 mX12_readLiteral 117 [some (.ref 139), some (.int a1), some (.int (z_tb q1.1)), some (.int (q87.1 + (0 : Int32)))] [] q90.2 Q
                  refine g_iload_n dX12_readLiteral_117 rfl rfl ?_
                  cases h
                  exact g_iret dX12_readLiteral_118 rfl rfl hq
                · replace h := z_ift (z_tbn.mp c89) h
                  refine g_bipush (v := (6 : Int32)) dX12_readLiteral_104 (by decide) ?_
                  refine g_goto (t := 110) dX12_readLiteral_106 (by decide) ?_
                  refine g_iadd dX12_readLiteral_110 ?_
                  refine g_istore_n (ls' := [some (.ref 139), some (.int a1), some (.int (z_tb q1.1)), some (.int (q87.1 + (6 : Int32)))]) dX12_readLiteral_111 rfl (Nat.le_of_ble_eq_true rfl) rfl ?_
                  refine g_aload_n dX12_readLiteral_112 rfl rfl ?_
                  refine g_iconst (v := (1 : Int32)) dX12_readLiteral_113 (by decide) ?_
                  obtain ⟨q92, e93, h⟩ := z_bd h
                  refine g_callV (a := 137) (as := [.int (1 : Int32)]) (rest := []) (c := mX12_must) (k1 := 2) dX12_readLiteral_114 rfl rfl rfl sh_137 rfl rfl (Nat.le_of_ble_eq_true rfl) (Nat.le_of_ble_eq_true rfl) (by decide) ?_
                  refine A_X12_must e93 ?_
                  show z_G none 5 mX12_readLiteral 117 [some (.ref 139), some (.int a1), some (.int (z_tb q1.1)), some (.int (q87.1 + (6 : Int32)))] [] q92.2 Q
                  refine g_iload_n dX12_readLiteral_117 rfl rfl ?_
                  cases h
                  exact g_iret dX12_readLiteral_118 rfl rfl hq
              · replace h := z_iff c86 h
                refine g_iconst (v := (0 : Int32)) dX12_readLiteral_92 (by decide) ?_
                refine g_goto (t := 111) dX12_readLiteral_93 (by decide) ?_
                refine g_istore_n (ls' := [some (.ref 139), some (.int a1), some (.int (z_tb q1.1)), some (.int (0 : Int32))]) dX12_readLiteral_111 rfl (Nat.le_of_ble_eq_true rfl) rfl ?_
                refine g_aload_n dX12_readLiteral_112 rfl rfl ?_
                refine g_iconst (v := (1 : Int32)) dX12_readLiteral_113 (by decide) ?_
                obtain ⟨q94, e95, h⟩ := z_bd h
                refine g_callV (a := 137) (as := [.int (1 : Int32)]) (rest := []) (c := mX12_must) (k1 := 2) dX12_readLiteral_114 rfl rfl rfl sh_137 rfl rfl (Nat.le_of_ble_eq_true rfl) (Nat.le_of_ble_eq_true rfl) (by decide) ?_
                refine A_X12_must e95 ?_
                show z_G none 5 mX12_readLiteral 117 [some (.ref 139), some (.int a1), some (.int (z_tb q1.1)), some (.int (0 : Int32))] [] q94.2 Q
                refine g_iload_n dX12_readLiteral_117 rfl rfl ?_
                cases h
                exact g_iret dX12_readLiteral_118 rfl rfl hq
            · replace h := z_iff c85 h
              refine g_aload_n dX12_readLiteral_76 rfl rfl ?_
              refine g_iconst (v := (5 : Int32)) dX12_readLiteral_77 (by decide) ?_
              refine g_aload_n dX12_readLiteral_78 rfl rfl ?_
              refine g_get (a := 137) (v := .int (q81.2.1 137 15)) dX12_readLiteral_79 f_12_106 sh_137 rfl rfl ?_
              obtain ⟨q96, e97, h⟩ := z_bd h
              refine g_callV (a := 137) (as := [.int (5 : Int32), .int (q81.2.1 137 15)]) (rest := []) (c := mX12_fail) (k1 := 0) dX12_readLiteral_82 rfl rfl rfl sh_137 rfl rfl (Nat.le_of_ble_eq_true rfl) (Nat.le_of_ble_eq_true rfl) (by decide) ?_
              refine A_X12_fail e97 ?_
              show z_G none 5 mX12_readLiteral 85 [some (.ref 139), some (.int a1), some (.int (z_tb q1.1)), none] [] q96.2 Q
              refine g_aload_n dX12_readLiteral_85 rfl rfl ?_
              refine g_get (a := 137) (v := .int (q96.2.1 137 12)) dX12_readLiteral_86 f_12_212 sh_137 rfl rfl ?_
              refine g_if_le (t := 96) dX12_readLiteral_89 (by decide) (fun c98 => ?_) (fun c98 => ?_)
              · replace h := z_ift c98 h
                refine g_aload_n dX12_readLiteral_96 rfl rfl ?_
                obtain ⟨q99, e100, h⟩ := z_bd h
                refine g_callV (a := 137) (as := []) (rest := []) (c := mX12_named) (k1 := 0) dX12_readLiteral_97 rfl rfl rfl sh_137 rfl rfl (Nat.le_of_ble_eq_true rfl) (Nat.le_of_ble_eq_true rfl) (by decide) ?_
                refine A_X12_named e100 ?_
                show z_G none 5 mX12_readLiteral 100 [some (.ref 139), some (.int a1), some (.int (z_tb q1.1)), none] [.int q99.1] q99.2 Q
                refine g_iload_n dX12_readLiteral_100 rfl rfl ?_
                refine g_if_eq (t := 109) dX12_readLiteral_101 (by decide) (fun c101 => ?_) (fun c101 => ?_)
                · replace h := z_iff (z_tb0.mp c101) h
                  refine g_iconst (v := (0 : Int32)) dX12_readLiteral_109 (by decide) ?_
                  refine g_iadd dX12_readLiteral_110 ?_
                  refine g_istore_n (ls' := [some (.ref 139), some (.int a1), some (.int (z_tb q1.1)), some (.int (q99.1 + (0 : Int32)))]) dX12_readLiteral_111 rfl (Nat.le_of_ble_eq_true rfl) rfl ?_
                  refine g_aload_n dX12_readLiteral_112 rfl rfl ?_
                  refine g_iconst (v := (1 : Int32)) dX12_readLiteral_113 (by decide) ?_
                  obtain ⟨q102, e103, h⟩ := z_bd h
                  refine g_callV (a := 137) (as := [.int (1 : Int32)]) (rest := []) (c := mX12_must) (k1 := 2) dX12_readLiteral_114 rfl rfl rfl sh_137 rfl rfl (Nat.le_of_ble_eq_true rfl) (Nat.le_of_ble_eq_true rfl) (by decide) ?_
                  refine A_X12_must e103 ?_
                  show z_G none 5 mX12_readLiteral 117 [some (.ref 139), some (.int a1), some (.int (z_tb q1.1)), some (.int (q99.1 + (0 : Int32)))] [] q102.2 Q
                  refine g_iload_n dX12_readLiteral_117 rfl rfl ?_
                  cases h
                  exact g_iret dX12_readLiteral_118 rfl rfl hq
                · replace h := z_ift (z_tbn.mp c101) h
                  refine g_bipush (v := (6 : Int32)) dX12_readLiteral_104 (by decide) ?_
                  refine g_goto (t := 110) dX12_readLiteral_106 (by decide) ?_
                  refine g_iadd dX12_readLiteral_110 ?_
                  refine g_istore_n (ls' := [some (.ref 139), some (.int a1), some (.int (z_tb q1.1)), some (.int (q99.1 + (6 : Int32)))]) dX12_readLiteral_111 rfl (Nat.le_of_ble_eq_true rfl) rfl ?_
                  refine g_aload_n dX12_readLiteral_112 rfl rfl ?_
                  refine g_iconst (v := (1 : Int32)) dX12_readLiteral_113 (by decide) ?_
                  obtain ⟨q104, e105, h⟩ := z_bd h
                  refine g_callV (a := 137) (as := [.int (1 : Int32)]) (rest := []) (c := mX12_must) (k1 := 2) dX12_readLiteral_114 rfl rfl rfl sh_137 rfl rfl (Nat.le_of_ble_eq_true rfl) (Nat.le_of_ble_eq_true rfl) (by decide) ?_
                  refine A_X12_must e105 ?_
                  show z_G none 5 mX12_readLiteral 117 [some (.ref 139), some (.int a1), some (.int (z_tb q1.1)), some (.int (q99.1 + (6 : Int32)))] [] q104.2 Q
                  refine g_iload_n dX12_readLiteral_117 rfl rfl ?_
                  cases h
                  exact g_iret dX12_readLiteral_118 rfl rfl hq
              · replace h := z_iff c98 h
                refine g_iconst (v := (0 : Int32)) dX12_readLiteral_92 (by decide) ?_
                refine g_goto (t := 111) dX12_readLiteral_93 (by decide) ?_
                refine g_istore_n (ls' := [some (.ref 139), some (.int a1), some (.int (z_tb q1.1)), some (.int (0 : Int32))]) dX12_readLiteral_111 rfl (Nat.le_of_ble_eq_true rfl) rfl ?_
                refine g_aload_n dX12_readLiteral_112 rfl rfl ?_
                refine g_iconst (v := (1 : Int32)) dX12_readLiteral_113 (by decide) ?_
                obtain ⟨q106, e107, h⟩ := z_bd h
                refine g_callV (a := 137) (as := [.int (1 : Int32)]) (rest := []) (c := mX12_must) (k1 := 2) dX12_readLiteral_114 rfl rfl rfl sh_137 rfl rfl (Nat.le_of_ble_eq_true rfl) (Nat.le_of_ble_eq_true rfl) (by decide) ?_
                refine A_X12_must e107 ?_
                show z_G none 5 mX12_readLiteral 117 [some (.ref 139), some (.int a1), some (.int (z_tb q1.1)), some (.int (0 : Int32))] [] q106.2 Q
                refine g_iload_n dX12_readLiteral_117 rfl rfl ?_
                cases h
                exact g_iret dX12_readLiteral_118 rfl rfl hq
          · replace h := z_ift c84 h
            refine g_aload_n dX12_readLiteral_56 rfl rfl ?_
            obtain ⟨q108, e109, h⟩ := z_bd h
            refine g_callV (a := 137) (as := []) (rest := []) (c := mX12_named) (k1 := 0) dX12_readLiteral_57 rfl rfl rfl sh_137 rfl rfl (Nat.le_of_ble_eq_true rfl) (Nat.le_of_ble_eq_true rfl) (by decide) ?_
            refine A_X12_named e109 ?_
            show z_G none 5 mX12_readLiteral 60 [some (.ref 139), some (.int a1), some (.int (z_tb q1.1)), none] [.int q108.1] q108.2 Q
            refine g_if_ge (t := 72) dX12_readLiteral_60 (by decide) (fun c110 => ?_) (fun c110 => ?_)
            · replace h := z_ift c110 h
              refine g_iload_n dX12_readLiteral_72 rfl rfl ?_
              refine g_if_eq (t := 85) dX12_readLiteral_73 (by decide) (fun c111 => ?_) (fun c111 => ?_)
              · replace h := z_ift c111 h
                refine g_aload_n dX12_readLiteral_85 rfl rfl ?_
                refine g_get (a := 137) (v := .int (q108.2.1 137 12)) dX12_readLiteral_86 f_12_212 sh_137 rfl rfl ?_
                refine g_if_le (t := 96) dX12_readLiteral_89 (by decide) (fun c112 => ?_) (fun c112 => ?_)
                · replace h := z_ift c112 h
                  refine g_aload_n dX12_readLiteral_96 rfl rfl ?_
                  obtain ⟨q113, e114, h⟩ := z_bd h
                  refine g_callV (a := 137) (as := []) (rest := []) (c := mX12_named) (k1 := 0) dX12_readLiteral_97 rfl rfl rfl sh_137 rfl rfl (Nat.le_of_ble_eq_true rfl) (Nat.le_of_ble_eq_true rfl) (by decide) ?_
                  refine A_X12_named e114 ?_
                  show z_G none 5 mX12_readLiteral 100 [some (.ref 139), some (.int a1), some (.int (z_tb q1.1)), none] [.int q113.1] q113.2 Q
                  refine g_iload_n dX12_readLiteral_100 rfl rfl ?_
                  refine g_if_eq (t := 109) dX12_readLiteral_101 (by decide) (fun c115 => ?_) (fun c115 => ?_)
                  · replace h := z_iff (z_tb0.mp c115) h
                    refine g_iconst (v := (0 : Int32)) dX12_readLiteral_109 (by decide) ?_
                    refine g_iadd dX12_readLiteral_110 ?_
                    refine g_istore_n (ls' := [some (.ref 139), some (.int a1), some (.int (z_tb q1.1)), some (.int (q113.1 + (0 : Int32)))]) dX12_readLiteral_111 rfl (Nat.le_of_ble_eq_true rfl) rfl ?_
                    refine g_aload_n dX12_readLiteral_112 rfl rfl ?_
                    refine g_iconst (v := (1 : Int32)) dX12_readLiteral_113 (by decide) ?_
                    obtain ⟨q116, e117, h⟩ := z_bd h
                    refine g_callV (a := 137) (as := [.int (1 : Int32)]) (rest := []) (c := mX12_must) (k1 := 2) dX12_readLiteral_114 rfl rfl rfl sh_137 rfl rfl (Nat.le_of_ble_eq_true rfl) (Nat.le_of_ble_eq_true rfl) (by decide) ?_
                    refine A_X12_must e117 ?_
                    show z_G none 5 mX12_readLiteral 117 [some (.ref 139), some (.int a1), some (.int (z_tb q1.1)), some (.int (q113.1 + (0 : Int32)))] [] q116.2 Q
                    refine g_iload_n dX12_readLiteral_117 rfl rfl ?_
                    cases h
                    exact g_iret dX12_readLiteral_118 rfl rfl hq
                  · replace h := z_ift (z_tbn.mp c115) h
                    refine g_bipush (v := (6 : Int32)) dX12_readLiteral_104 (by decide) ?_
                    refine g_goto (t := 110) dX12_readLiteral_106 (by decide) ?_
                    refine g_iadd dX12_readLiteral_110 ?_
                    refine g_istore_n (ls' := [some (.ref 139), some (.int a1), some (.int (z_tb q1.1)), some (.int (q113.1 + (6 : Int32)))]) dX12_readLiteral_111 rfl (Nat.le_of_ble_eq_true rfl) rfl ?_
                    refine g_aload_n dX12_readLiteral_112 rfl rfl ?_
                    refine g_iconst (v := (1 : Int32)) dX12_readLiteral_113 (by decide) ?_
                    obtain ⟨q118, e119, h⟩ := z_bd h
                    refine g_callV (a := 137) (as := [.int (1 : Int32)]) (rest := []) (c := mX12_must) (k1 := 2) dX12_readLiteral_114 rfl rfl rfl sh_137 rfl rfl (Nat.le_of_ble_eq_true rfl) (Nat.le_of_ble_eq_true rfl) (by decide) ?_
                    refine A_X12_must e119 ?_
                    show z_G none 5 mX12_readLiteral 117 [some (.ref 139), some (.int a1), some (.int (z_tb q1.1)), some (.int (q113.1 + (6 : Int32)))] [] q118.2 Q
                    refine g_iload_n dX12_readLiteral_117 rfl rfl ?_
                    cases h
                    exact g_iret dX12_readLiteral_118 rfl rfl hq
                · replace h := z_iff c112 h
                  refine g_iconst (v := (0 : Int32)) dX12_readLiteral_92 (by decide) ?_
                  refine g_goto (t := 111) dX12_readLiteral_93 (by decide) ?_
                  refine g_istore_n (ls' := [some (.ref 139), some (.int a1), some (.int (z_tb q1.1)), some (.int (0 : Int32))]) dX12_readLiteral_111 rfl (Nat.le_of_ble_eq_true rfl) rfl ?_
                  refine g_aload_n dX12_readLiteral_112 rfl rfl ?_
                  refine g_iconst (v := (1 : Int32)) dX12_readLiteral_113 (by decide) ?_
                  obtain ⟨q120, e121, h⟩ := z_bd h
                  refine g_callV (a := 137) (as := [.int (1 : Int32)]) (rest := []) (c := mX12_must) (k1 := 2) dX12_readLiteral_114 rfl rfl rfl sh_137 rfl rfl (Nat.le_of_ble_eq_true rfl) (Nat.le_of_ble_eq_true rfl) (by decide) ?_
                  refine A_X12_must e121 ?_
                  show z_G none 5 mX12_readLiteral 117 [some (.ref 139), some (.int a1), some (.int (z_tb q1.1)), some (.int (0 : Int32))] [] q120.2 Q
                  refine g_iload_n dX12_readLiteral_117 rfl rfl ?_
                  cases h
                  exact g_iret dX12_readLiteral_118 rfl rfl hq
              · replace h := z_iff c111 h
                refine g_aload_n dX12_readLiteral_76 rfl rfl ?_
                refine g_iconst (v := (5 : Int32)) dX12_readLiteral_77 (by decide) ?_
                refine g_aload_n dX12_readLiteral_78 rfl rfl ?_
                refine g_get (a := 137) (v := .int (q108.2.1 137 15)) dX12_readLiteral_79 f_12_106 sh_137 rfl rfl ?_
                obtain ⟨q122, e123, h⟩ := z_bd h
                refine g_callV (a := 137) (as := [.int (5 : Int32), .int (q108.2.1 137 15)]) (rest := []) (c := mX12_fail) (k1 := 0) dX12_readLiteral_82 rfl rfl rfl sh_137 rfl rfl (Nat.le_of_ble_eq_true rfl) (Nat.le_of_ble_eq_true rfl) (by decide) ?_
                refine A_X12_fail e123 ?_
                show z_G none 5 mX12_readLiteral 85 [some (.ref 139), some (.int a1), some (.int (z_tb q1.1)), none] [] q122.2 Q
                refine g_aload_n dX12_readLiteral_85 rfl rfl ?_
                refine g_get (a := 137) (v := .int (q122.2.1 137 12)) dX12_readLiteral_86 f_12_212 sh_137 rfl rfl ?_
                refine g_if_le (t := 96) dX12_readLiteral_89 (by decide) (fun c124 => ?_) (fun c124 => ?_)
                · replace h := z_ift c124 h
                  refine g_aload_n dX12_readLiteral_96 rfl rfl ?_
                  obtain ⟨q125, e126, h⟩ := z_bd h
                  refine g_callV (a := 137) (as := []) (rest := []) (c := mX12_named) (k1 := 0) dX12_readLiteral_97 rfl rfl rfl sh_137 rfl rfl (Nat.le_of_ble_eq_true rfl) (Nat.le_of_ble_eq_true rfl) (by decide) ?_
                  refine A_X12_named e126 ?_
                  show z_G none 5 mX12_readLiteral 100 [some (.ref 139), some (.int a1), some (.int (z_tb q1.1)), none] [.int q125.1] q125.2 Q
                  refine g_iload_n dX12_readLiteral_100 rfl rfl ?_
                  refine g_if_eq (t := 109) dX12_readLiteral_101 (by decide) (fun c127 => ?_) (fun c127 => ?_)
                  · replace h := z_iff (z_tb0.mp c127) h
                    refine g_iconst (v := (0 : Int32)) dX12_readLiteral_109 (by decide) ?_
                    refine g_iadd dX12_readLiteral_110 ?_
                    refine g_istore_n (ls' := [some (.ref 139), some (.int a1), some (.int (z_tb q1.1)), some (.int (q125.1 + (0 : Int32)))]) dX12_readLiteral_111 rfl (Nat.le_of_ble_eq_true rfl) rfl ?_
                    refine g_aload_n dX12_readLiteral_112 rfl rfl ?_
                    refine g_iconst (v := (1 : Int32)) dX12_readLiteral_113 (by decide) ?_
                    obtain ⟨q128, e129, h⟩ := z_bd h
                    refine g_callV (a := 137) (as := [.int (1 : Int32)]) (rest := []) (c := mX12_must) (k1 := 2) dX12_readLiteral_114 rfl rfl rfl sh_137 rfl rfl (Nat.le_of_ble_eq_true rfl) (Nat.le_of_ble_eq_true rfl) (by decide) ?_
                    refine A_X12_must e129 ?_
                    show z_G none 5 mX12_readLiteral 117 [some (.ref 139), some (.int a1), some (.int (z_tb q1.1)), some (.int (q125.1 + (0 : Int32)))] [] q128.2 Q
                    refine g_iload_n dX12_readLiteral_117 rfl rfl ?_
                    cases h
                    exact g_iret dX12_readLiteral_118 rfl rfl hq
                  · replace h := z_ift (z_tbn.mp c127) h
                    refine g_bipush (v := (6 : Int32)) dX12_readLiteral_104 (by decide) ?_
                    refine g_goto (t := 110) dX12_readLiteral_106 (by decide) ?_
                    refine g_iadd dX12_readLiteral_110 ?_
                    refine g_istore_n (ls' := [some (.ref 139), some (.int a1), some (.int (z_tb q1.1)), some (.int (q125.1 + (6 : Int32)))]) dX12_readLiteral_111 rfl (Nat.le_of_ble_eq_true rfl) rfl ?_
                    refine g_aload_n dX12_readLiteral_112 rfl rfl ?_
                    refine g_iconst (v := (1 : Int32)) dX12_readLiteral_113 (by decide) ?_
                    obtain ⟨q130, e131, h⟩ := z_bd h
                    refine g_callV (a := 137) (as := [.int (1 : Int32)]) (rest := []) (c := mX12_must) (k1 := 2) dX12_readLiteral_114 rfl rfl rfl sh_137 rfl rfl (Nat.le_of_ble_eq_true rfl) (Nat.le_of_ble_eq_true rfl) (by decide) ?_
                    refine A_X12_must e131 ?_
                    show z_G none 5 mX12_readLiteral 117 [some (.ref 139), some (.int a1), some (.int (z_tb q1.1)), some (.int (q125.1 + (6 : Int32)))] [] q130.2 Q
                    refine g_iload_n dX12_readLiteral_117 rfl rfl ?_
                    cases h
                    exact g_iret dX12_readLiteral_118 rfl rfl hq
                · replace h := z_iff c124 h
                  refine g_iconst (v := (0 : Int32)) dX12_readLiteral_92 (by decide) ?_
                  refine g_goto (t := 111) dX12_readLiteral_93 (by decide) ?_
                  refine g_istore_n (ls' := [some (.ref 139), some (.int a1), some (.int (z_tb q1.1)), some (.int (0 : Int32))]) dX12_readLiteral_111 rfl (Nat.le_of_ble_eq_true rfl) rfl ?_
                  refine g_aload_n dX12_readLiteral_112 rfl rfl ?_
                  refine g_iconst (v := (1 : Int32)) dX12_readLiteral_113 (by decide) ?_
                  obtain ⟨q132, e133, h⟩ := z_bd h
                  refine g_callV (a := 137) (as := [.int (1 : Int32)]) (rest := []) (c := mX12_must) (k1 := 2) dX12_readLiteral_114 rfl rfl rfl sh_137 rfl rfl (Nat.le_of_ble_eq_true rfl) (Nat.le_of_ble_eq_true rfl) (by decide) ?_
                  refine A_X12_must e133 ?_
                  show z_G none 5 mX12_readLiteral 117 [some (.ref 139), some (.int a1), some (.int (z_tb q1.1)), some (.int (0 : Int32))] [] q132.2 Q
                  refine g_iload_n dX12_readLiteral_117 rfl rfl ?_
                  cases h
                  exact g_iret dX12_readLiteral_118 rfl rfl hq
            · replace h := z_iff c110 h
              refine g_aload_n dX12_readLiteral_63 rfl rfl ?_
              refine g_iconst (v := (3 : Int32)) dX12_readLiteral_64 (by decide) ?_
              refine g_aload_n dX12_readLiteral_65 rfl rfl ?_
              refine g_get (a := 137) (v := .int (q108.2.1 137 15)) dX12_readLiteral_66 f_12_106 sh_137 rfl rfl ?_
              obtain ⟨q134, e135, h⟩ := z_bd h
              refine g_callV (a := 137) (as := [.int (3 : Int32), .int (q108.2.1 137 15)]) (rest := []) (c := mX12_fail) (k1 := 0) dX12_readLiteral_69 rfl rfl rfl sh_137 rfl rfl (Nat.le_of_ble_eq_true rfl) (Nat.le_of_ble_eq_true rfl) (by decide) ?_
              refine A_X12_fail e135 ?_
              show z_G none 5 mX12_readLiteral 72 [some (.ref 139), some (.int a1), some (.int (z_tb q1.1)), none] [] q134.2 Q
              refine g_iload_n dX12_readLiteral_72 rfl rfl ?_
              refine g_if_eq (t := 85) dX12_readLiteral_73 (by decide) (fun c136 => ?_) (fun c136 => ?_)
              · replace h := z_ift c136 h
                refine g_aload_n dX12_readLiteral_85 rfl rfl ?_
                refine g_get (a := 137) (v := .int (q134.2.1 137 12)) dX12_readLiteral_86 f_12_212 sh_137 rfl rfl ?_
                refine g_if_le (t := 96) dX12_readLiteral_89 (by decide) (fun c137 => ?_) (fun c137 => ?_)
                · replace h := z_ift c137 h
                  refine g_aload_n dX12_readLiteral_96 rfl rfl ?_
                  obtain ⟨q138, e139, h⟩ := z_bd h
                  refine g_callV (a := 137) (as := []) (rest := []) (c := mX12_named) (k1 := 0) dX12_readLiteral_97 rfl rfl rfl sh_137 rfl rfl (Nat.le_of_ble_eq_true rfl) (Nat.le_of_ble_eq_true rfl) (by decide) ?_
                  refine A_X12_named e139 ?_
                  show z_G none 5 mX12_readLiteral 100 [some (.ref 139), some (.int a1), some (.int (z_tb q1.1)), none] [.int q138.1] q138.2 Q
                  refine g_iload_n dX12_readLiteral_100 rfl rfl ?_
                  refine g_if_eq (t := 109) dX12_readLiteral_101 (by decide) (fun c140 => ?_) (fun c140 => ?_)
                  · replace h := z_iff (z_tb0.mp c140) h
                    refine g_iconst (v := (0 : Int32)) dX12_readLiteral_109 (by decide) ?_
                    refine g_iadd dX12_readLiteral_110 ?_
                    refine g_istore_n (ls' := [some (.ref 139), some (.int a1), some (.int (z_tb q1.1)), some (.int (q138.1 + (0 : Int32)))]) dX12_readLiteral_111 rfl (Nat.le_of_ble_eq_true rfl) rfl ?_
                    refine g_aload_n dX12_readLiteral_112 rfl rfl ?_
                    refine g_iconst (v := (1 : Int32)) dX12_readLiteral_113 (by decide) ?_
                    obtain ⟨q141, e142, h⟩ := z_bd h
                    refine g_callV (a := 137) (as := [.int (1 : Int32)]) (rest := []) (c := mX12_must) (k1 := 2) dX12_readLiteral_114 rfl rfl rfl sh_137 rfl rfl (Nat.le_of_ble_eq_true rfl) (Nat.le_of_ble_eq_true rfl) (by decide) ?_
                    refine A_X12_must e142 ?_
                    show z_G none 5 mX12_readLiteral 117 [some (.ref 139), some (.int a1), some (.int (z_tb q1.1)), some (.int (q138.1 + (0 : Int32)))] [] q141.2 Q
                    refine g_iload_n dX12_readLiteral_117 rfl rfl ?_
                    cases h
                    exact g_iret dX12_readLiteral_118 rfl rfl hq
                  · replace h := z_ift (z_tbn.mp c140) h
                    refine g_bipush (v := (6 : Int32)) dX12_readLiteral_104 (by decide) ?_
                    refine g_goto (t := 110) dX12_readLiteral_106 (by decide) ?_
                    refine g_iadd dX12_readLiteral_110 ?_
                    refine g_istore_n (ls' := [some (.ref 139), some (.int a1), some (.int (z_tb q1.1)), some (.int (q138.1 + (6 : Int32)))]) dX12_readLiteral_111 rfl (Nat.le_of_ble_eq_true rfl) rfl ?_
                    refine g_aload_n dX12_readLiteral_112 rfl rfl ?_
                    refine g_iconst (v := (1 : Int32)) dX12_readLiteral_113 (by decide) ?_
                    obtain ⟨q143, e144, h⟩ := z_bd h
                    refine g_callV (a := 137) (as := [.int (1 : Int32)]) (rest := []) (c := mX12_must) (k1 := 2) dX12_readLiteral_114 rfl rfl rfl sh_137 rfl rfl (Nat.le_of_ble_eq_true rfl) (Nat.le_of_ble_eq_true rfl) (by decide) ?_
                    refine A_X12_must e144 ?_
                    show z_G none 5 mX12_readLiteral 117 [some (.ref 139), some (.int a1), some (.int (z_tb q1.1)), some (.int (q138.1 + (6 : Int32)))] [] q143.2 Q
                    refine g_iload_n dX12_readLiteral_117 rfl rfl ?_
                    cases h
                    exact g_iret dX12_readLiteral_118 rfl rfl hq
                · replace h := z_iff c137 h
                  refine g_iconst (v := (0 : Int32)) dX12_readLiteral_92 (by decide) ?_
                  refine g_goto (t := 111) dX12_readLiteral_93 (by decide) ?_
                  refine g_istore_n (ls' := [some (.ref 139), some (.int a1), some (.int (z_tb q1.1)), some (.int (0 : Int32))]) dX12_readLiteral_111 rfl (Nat.le_of_ble_eq_true rfl) rfl ?_
                  refine g_aload_n dX12_readLiteral_112 rfl rfl ?_
                  refine g_iconst (v := (1 : Int32)) dX12_readLiteral_113 (by decide) ?_
                  obtain ⟨q145, e146, h⟩ := z_bd h
                  refine g_callV (a := 137) (as := [.int (1 : Int32)]) (rest := []) (c := mX12_must) (k1 := 2) dX12_readLiteral_114 rfl rfl rfl sh_137 rfl rfl (Nat.le_of_ble_eq_true rfl) (Nat.le_of_ble_eq_true rfl) (by decide) ?_
                  refine A_X12_must e146 ?_
                  show z_G none 5 mX12_readLiteral 117 [some (.ref 139), some (.int a1), some (.int (z_tb q1.1)), some (.int (0 : Int32))] [] q145.2 Q
                  refine g_iload_n dX12_readLiteral_117 rfl rfl ?_
                  cases h
                  exact g_iret dX12_readLiteral_118 rfl rfl hq
              · replace h := z_iff c136 h
                refine g_aload_n dX12_readLiteral_76 rfl rfl ?_
                refine g_iconst (v := (5 : Int32)) dX12_readLiteral_77 (by decide) ?_
                refine g_aload_n dX12_readLiteral_78 rfl rfl ?_
                refine g_get (a := 137) (v := .int (q134.2.1 137 15)) dX12_readLiteral_79 f_12_106 sh_137 rfl rfl ?_
                obtain ⟨q147, e148, h⟩ := z_bd h
                refine g_callV (a := 137) (as := [.int (5 : Int32), .int (q134.2.1 137 15)]) (rest := []) (c := mX12_fail) (k1 := 0) dX12_readLiteral_82 rfl rfl rfl sh_137 rfl rfl (Nat.le_of_ble_eq_true rfl) (Nat.le_of_ble_eq_true rfl) (by decide) ?_
                refine A_X12_fail e148 ?_
                show z_G none 5 mX12_readLiteral 85 [some (.ref 139), some (.int a1), some (.int (z_tb q1.1)), none] [] q147.2 Q
                refine g_aload_n dX12_readLiteral_85 rfl rfl ?_
                refine g_get (a := 137) (v := .int (q147.2.1 137 12)) dX12_readLiteral_86 f_12_212 sh_137 rfl rfl ?_
                refine g_if_le (t := 96) dX12_readLiteral_89 (by decide) (fun c149 => ?_) (fun c149 => ?_)
                · replace h := z_ift c149 h
                  refine g_aload_n dX12_readLiteral_96 rfl rfl ?_
                  obtain ⟨q150, e151, h⟩ := z_bd h
                  refine g_callV (a := 137) (as := []) (rest := []) (c := mX12_named) (k1 := 0) dX12_readLiteral_97 rfl rfl rfl sh_137 rfl rfl (Nat.le_of_ble_eq_true rfl) (Nat.le_of_ble_eq_true rfl) (by decide) ?_
                  refine A_X12_named e151 ?_
                  show z_G none 5 mX12_readLiteral 100 [some (.ref 139), some (.int a1), some (.int (z_tb q1.1)), none] [.int q150.1] q150.2 Q
                  refine g_iload_n dX12_readLiteral_100 rfl rfl ?_
                  refine g_if_eq (t := 109) dX12_readLiteral_101 (by decide) (fun c152 => ?_) (fun c152 => ?_)
                  · replace h := z_iff (z_tb0.mp c152) h
                    refine g_iconst (v := (0 : Int32)) dX12_readLiteral_109 (by decide) ?_
                    refine g_iadd dX12_readLiteral_110 ?_
                    refine g_istore_n (ls' := [some (.ref 139), some (.int a1), some (.int (z_tb q1.1)), some (.int (q150.1 + (0 : Int32)))]) dX12_readLiteral_111 rfl (Nat.le_of_ble_eq_true rfl) rfl ?_
                    refine g_aload_n dX12_readLiteral_112 rfl rfl ?_
                    refine g_iconst (v := (1 : Int32)) dX12_readLiteral_113 (by decide) ?_
                    obtain ⟨q153, e154, h⟩ := z_bd h
                    refine g_callV (a := 137) (as := [.int (1 : Int32)]) (rest := []) (c := mX12_must) (k1 := 2) dX12_readLiteral_114 rfl rfl rfl sh_137 rfl rfl (Nat.le_of_ble_eq_true rfl) (Nat.le_of_ble_eq_true rfl) (by decide) ?_
                    refine A_X12_must e154 ?_
                    show z_G none 5 mX12_readLiteral 117 [some (.ref 139), some (.int a1), some (.int (z_tb q1.1)), some (.int (q150.1 + (0 : Int32)))] [] q153.2 Q
                    refine g_iload_n dX12_readLiteral_117 rfl rfl ?_
                    cases h
                    exact g_iret dX12_readLiteral_118 rfl rfl hq
                  · replace h := z_ift (z_tbn.mp c152) h
                    refine g_bipush (v := (6 : Int32)) dX12_readLiteral_104 (by decide) ?_
                    refine g_goto (t := 110) dX12_readLiteral_106 (by decide) ?_
                    refine g_iadd dX12_readLiteral_110 ?_
                    refine g_istore_n (ls' := [some (.ref 139), some (.int a1), some (.int (z_tb q1.1)), some (.int (q150.1 + (6 : Int32)))]) dX12_readLiteral_111 rfl (Nat.le_of_ble_eq_true rfl) rfl ?_
                    refine g_aload_n dX12_readLiteral_112 rfl rfl ?_
                    refine g_iconst (v := (1 : Int32)) dX12_readLiteral_113 (by decide) ?_
                    obtain ⟨q155, e156, h⟩ := z_bd h
                    refine g_callV (a := 137) (as := [.int (1 : Int32)]) (rest := []) (c := mX12_must) (k1 := 2) dX12_readLiteral_114 rfl rfl rfl sh_137 rfl rfl (Nat.le_of_ble_eq_true rfl) (Nat.le_of_ble_eq_true rfl) (by decide) ?_
                    refine A_X12_must e156 ?_
                    show z_G none 5 mX12_readLiteral 117 [some (.ref 139), some (.int a1), some (.int (z_tb q1.1)), some (.int (q150.1 + (6 : Int32)))] [] q155.2 Q
                    refine g_iload_n dX12_readLiteral_117 rfl rfl ?_
                    cases h
                    exact g_iret dX12_readLiteral_118 rfl rfl hq
                · replace h := z_iff c149 h
                  refine g_iconst (v := (0 : Int32)) dX12_readLiteral_92 (by decide) ?_
                  refine g_goto (t := 111) dX12_readLiteral_93 (by decide) ?_
                  refine g_istore_n (ls' := [some (.ref 139), some (.int a1), some (.int (z_tb q1.1)), some (.int (0 : Int32))]) dX12_readLiteral_111 rfl (Nat.le_of_ble_eq_true rfl) rfl ?_
                  refine g_aload_n dX12_readLiteral_112 rfl rfl ?_
                  refine g_iconst (v := (1 : Int32)) dX12_readLiteral_113 (by decide) ?_
                  obtain ⟨q157, e158, h⟩ := z_bd h
                  refine g_callV (a := 137) (as := [.int (1 : Int32)]) (rest := []) (c := mX12_must) (k1 := 2) dX12_readLiteral_114 rfl rfl rfl sh_137 rfl rfl (Nat.le_of_ble_eq_true rfl) (Nat.le_of_ble_eq_true rfl) (by decide) ?_
                  refine A_X12_must e158 ?_
                  show z_G none 5 mX12_readLiteral 117 [some (.ref 139), some (.int a1), some (.int (z_tb q1.1)), some (.int (0 : Int32))] [] q157.2 Q
                  refine g_iload_n dX12_readLiteral_117 rfl rfl ?_
                  cases h
                  exact g_iret dX12_readLiteral_118 rfl rfl hq
        · replace h := z_iff (z_tb0.mp c83) h
          refine g_aload_n dX12_readLiteral_45 rfl rfl ?_
          obtain ⟨q159, e160, h⟩ := z_bd h
          refine g_callV (a := 137) (as := []) (rest := []) (c := mX12_amiss) (k1 := 1) dX12_readLiteral_46 rfl rfl rfl sh_137 rfl rfl (Nat.le_of_ble_eq_true rfl) (Nat.le_of_ble_eq_true rfl) (by decide) ?_
          refine A_X12_amiss e160 ?_
          show z_G none 5 mX12_readLiteral 49 [some (.ref 139), some (.int a1), some (.int (z_tb q1.1)), none] [] q159.2 Q
          refine g_aload_n dX12_readLiteral_49 rfl rfl ?_
          refine g_get (a := 137) (v := .int (q159.2.1 137 12)) dX12_readLiteral_50 f_12_212 sh_137 rfl rfl ?_
          refine g_if_ne (t := 72) dX12_readLiteral_53 (by decide) (fun c161 => ?_) (fun c161 => ?_)
          · replace h := z_iff c161 h
            refine g_iload_n dX12_readLiteral_72 rfl rfl ?_
            refine g_if_eq (t := 85) dX12_readLiteral_73 (by decide) (fun c162 => ?_) (fun c162 => ?_)
            · replace h := z_ift c162 h
              refine g_aload_n dX12_readLiteral_85 rfl rfl ?_
              refine g_get (a := 137) (v := .int (q159.2.1 137 12)) dX12_readLiteral_86 f_12_212 sh_137 rfl rfl ?_
              refine g_if_le (t := 96) dX12_readLiteral_89 (by decide) (fun c163 => ?_) (fun c163 => ?_)
              · replace h := z_ift c163 h
                refine g_aload_n dX12_readLiteral_96 rfl rfl ?_
                obtain ⟨q164, e165, h⟩ := z_bd h
                refine g_callV (a := 137) (as := []) (rest := []) (c := mX12_named) (k1 := 0) dX12_readLiteral_97 rfl rfl rfl sh_137 rfl rfl (Nat.le_of_ble_eq_true rfl) (Nat.le_of_ble_eq_true rfl) (by decide) ?_
                refine A_X12_named e165 ?_
                show z_G none 5 mX12_readLiteral 100 [some (.ref 139), some (.int a1), some (.int (z_tb q1.1)), none] [.int q164.1] q164.2 Q
                refine g_iload_n dX12_readLiteral_100 rfl rfl ?_
                refine g_if_eq (t := 109) dX12_readLiteral_101 (by decide) (fun c166 => ?_) (fun c166 => ?_)
                · replace h := z_iff (z_tb0.mp c166) h
                  refine g_iconst (v := (0 : Int32)) dX12_readLiteral_109 (by decide) ?_
                  refine g_iadd dX12_readLiteral_110 ?_
                  refine g_istore_n (ls' := [some (.ref 139), some (.int a1), some (.int (z_tb q1.1)), some (.int (q164.1 + (0 : Int32)))]) dX12_readLiteral_111 rfl (Nat.le_of_ble_eq_true rfl) rfl ?_
                  refine g_aload_n dX12_readLiteral_112 rfl rfl ?_
                  refine g_iconst (v := (1 : Int32)) dX12_readLiteral_113 (by decide) ?_
                  obtain ⟨q167, e168, h⟩ := z_bd h
                  refine g_callV (a := 137) (as := [.int (1 : Int32)]) (rest := []) (c := mX12_must) (k1 := 2) dX12_readLiteral_114 rfl rfl rfl sh_137 rfl rfl (Nat.le_of_ble_eq_true rfl) (Nat.le_of_ble_eq_true rfl) (by decide) ?_
                  refine A_X12_must e168 ?_
                  show z_G none 5 mX12_readLiteral 117 [some (.ref 139), some (.int a1), some (.int (z_tb q1.1)), some (.int (q164.1 + (0 : Int32)))] [] q167.2 Q
                  refine g_iload_n dX12_readLiteral_117 rfl rfl ?_
                  cases h
                  exact g_iret dX12_readLiteral_118 rfl rfl hq
                · replace h := z_ift (z_tbn.mp c166) h
                  refine g_bipush (v := (6 : Int32)) dX12_readLiteral_104 (by decide) ?_
                  refine g_goto (t := 110) dX12_readLiteral_106 (by decide) ?_
                  refine g_iadd dX12_readLiteral_110 ?_
                  refine g_istore_n (ls' := [some (.ref 139), some (.int a1), some (.int (z_tb q1.1)), some (.int (q164.1 + (6 : Int32)))]) dX12_readLiteral_111 rfl (Nat.le_of_ble_eq_true rfl) rfl ?_
                  refine g_aload_n dX12_readLiteral_112 rfl rfl ?_
                  refine g_iconst (v := (1 : Int32)) dX12_readLiteral_113 (by decide) ?_
                  obtain ⟨q169, e170, h⟩ := z_bd h
                  refine g_callV (a := 137) (as := [.int (1 : Int32)]) (rest := []) (c := mX12_must) (k1 := 2) dX12_readLiteral_114 rfl rfl rfl sh_137 rfl rfl (Nat.le_of_ble_eq_true rfl) (Nat.le_of_ble_eq_true rfl) (by decide) ?_
                  refine A_X12_must e170 ?_
                  show z_G none 5 mX12_readLiteral 117 [some (.ref 139), some (.int a1), some (.int (z_tb q1.1)), some (.int (q164.1 + (6 : Int32)))] [] q169.2 Q
                  refine g_iload_n dX12_readLiteral_117 rfl rfl ?_
                  cases h
                  exact g_iret dX12_readLiteral_118 rfl rfl hq
              · replace h := z_iff c163 h
                refine g_iconst (v := (0 : Int32)) dX12_readLiteral_92 (by decide) ?_
                refine g_goto (t := 111) dX12_readLiteral_93 (by decide) ?_
                refine g_istore_n (ls' := [some (.ref 139), some (.int a1), some (.int (z_tb q1.1)), some (.int (0 : Int32))]) dX12_readLiteral_111 rfl (Nat.le_of_ble_eq_true rfl) rfl ?_
                refine g_aload_n dX12_readLiteral_112 rfl rfl ?_
                refine g_iconst (v := (1 : Int32)) dX12_readLiteral_113 (by decide) ?_
                obtain ⟨q171, e172, h⟩ := z_bd h
                refine g_callV (a := 137) (as := [.int (1 : Int32)]) (rest := []) (c := mX12_must) (k1 := 2) dX12_readLiteral_114 rfl rfl rfl sh_137 rfl rfl (Nat.le_of_ble_eq_true rfl) (Nat.le_of_ble_eq_true rfl) (by decide) ?_
                refine A_X12_must e172 ?_
                show z_G none 5 mX12_readLiteral 117 [some (.ref 139), some (.int a1), some (.int (z_tb q1.1)), some (.int (0 : Int32))] [] q171.2 Q
                refine g_iload_n dX12_readLiteral_117 rfl rfl ?_
                cases h
                exact g_iret dX12_readLiteral_118 rfl rfl hq
            · replace h := z_iff c162 h
              refine g_aload_n dX12_readLiteral_76 rfl rfl ?_
              refine g_iconst (v := (5 : Int32)) dX12_readLiteral_77 (by decide) ?_
              refine g_aload_n dX12_readLiteral_78 rfl rfl ?_
              refine g_get (a := 137) (v := .int (q159.2.1 137 15)) dX12_readLiteral_79 f_12_106 sh_137 rfl rfl ?_
              obtain ⟨q173, e174, h⟩ := z_bd h
              refine g_callV (a := 137) (as := [.int (5 : Int32), .int (q159.2.1 137 15)]) (rest := []) (c := mX12_fail) (k1 := 0) dX12_readLiteral_82 rfl rfl rfl sh_137 rfl rfl (Nat.le_of_ble_eq_true rfl) (Nat.le_of_ble_eq_true rfl) (by decide) ?_
              refine A_X12_fail e174 ?_
              show z_G none 5 mX12_readLiteral 85 [some (.ref 139), some (.int a1), some (.int (z_tb q1.1)), none] [] q173.2 Q
              refine g_aload_n dX12_readLiteral_85 rfl rfl ?_
              refine g_get (a := 137) (v := .int (q173.2.1 137 12)) dX12_readLiteral_86 f_12_212 sh_137 rfl rfl ?_
              refine g_if_le (t := 96) dX12_readLiteral_89 (by decide) (fun c175 => ?_) (fun c175 => ?_)
              · replace h := z_ift c175 h
                refine g_aload_n dX12_readLiteral_96 rfl rfl ?_
                obtain ⟨q176, e177, h⟩ := z_bd h
                refine g_callV (a := 137) (as := []) (rest := []) (c := mX12_named) (k1 := 0) dX12_readLiteral_97 rfl rfl rfl sh_137 rfl rfl (Nat.le_of_ble_eq_true rfl) (Nat.le_of_ble_eq_true rfl) (by decide) ?_
                refine A_X12_named e177 ?_
                show z_G none 5 mX12_readLiteral 100 [some (.ref 139), some (.int a1), some (.int (z_tb q1.1)), none] [.int q176.1] q176.2 Q
                refine g_iload_n dX12_readLiteral_100 rfl rfl ?_
                refine g_if_eq (t := 109) dX12_readLiteral_101 (by decide) (fun c178 => ?_) (fun c178 => ?_)
                · replace h := z_iff (z_tb0.mp c178) h
                  refine g_iconst (v := (0 : Int32)) dX12_readLiteral_109 (by decide) ?_
                  refine g_iadd dX12_readLiteral_110 ?_
                  refine g_istore_n (ls' := [some (.ref 139), some (.int a1), some (.int (z_tb q1.1)), some (.int (q176.1 + (0 : Int32)))]) dX12_readLiteral_111 rfl (Nat.le_of_ble_eq_true rfl) rfl ?_
                  refine g_aload_n dX12_readLiteral_112 rfl rfl ?_
                  refine g_iconst (v := (1 : Int32)) dX12_readLiteral_113 (by decide) ?_
                  obtain ⟨q179, e180, h⟩ := z_bd h
                  refine g_callV (a := 137) (as := [.int (1 : Int32)]) (rest := []) (c := mX12_must) (k1 := 2) dX12_readLiteral_114 rfl rfl rfl sh_137 rfl rfl (Nat.le_of_ble_eq_true rfl) (Nat.le_of_ble_eq_true rfl) (by decide) ?_
                  refine A_X12_must e180 ?_
                  show z_G none 5 mX12_readLiteral 117 [some (.ref 139), some (.int a1), some (.int (z_tb q1.1)), some (.int (q176.1 + (0 : Int32)))] [] q179.2 Q
                  refine g_iload_n dX12_readLiteral_117 rfl rfl ?_
                  cases h
                  exact g_iret dX12_readLiteral_118 rfl rfl hq
                · replace h := z_ift (z_tbn.mp c178) h
                  refine g_bipush (v := (6 : Int32)) dX12_readLiteral_104 (by decide) ?_
                  refine g_goto (t := 110) dX12_readLiteral_106 (by decide) ?_
                  refine g_iadd dX12_readLiteral_110 ?_
                  refine g_istore_n (ls' := [some (.ref 139), some (.int a1), some (.int (z_tb q1.1)), some (.int (q176.1 + (6 : Int32)))]) dX12_readLiteral_111 rfl (Nat.le_of_ble_eq_true rfl) rfl ?_
                  refine g_aload_n dX12_readLiteral_112 rfl rfl ?_
                  refine g_iconst (v := (1 : Int32)) dX12_readLiteral_113 (by decide) ?_
                  obtain ⟨q181, e182, h⟩ := z_bd h
                  refine g_callV (a := 137) (as := [.int (1 : Int32)]) (rest := []) (c := mX12_must) (k1 := 2) dX12_readLiteral_114 rfl rfl rfl sh_137 rfl rfl (Nat.le_of_ble_eq_true rfl) (Nat.le_of_ble_eq_true rfl) (by decide) ?_
                  refine A_X12_must e182 ?_
                  show z_G none 5 mX12_readLiteral 117 [some (.ref 139), some (.int a1), some (.int (z_tb q1.1)), some (.int (q176.1 + (6 : Int32)))] [] q181.2 Q
                  refine g_iload_n dX12_readLiteral_117 rfl rfl ?_
                  cases h
                  exact g_iret dX12_readLiteral_118 rfl rfl hq
              · replace h := z_iff c175 h
                refine g_iconst (v := (0 : Int32)) dX12_readLiteral_92 (by decide) ?_
                refine g_goto (t := 111) dX12_readLiteral_93 (by decide) ?_
                refine g_istore_n (ls' := [some (.ref 139), some (.int a1), some (.int (z_tb q1.1)), some (.int (0 : Int32))]) dX12_readLiteral_111 rfl (Nat.le_of_ble_eq_true rfl) rfl ?_
                refine g_aload_n dX12_readLiteral_112 rfl rfl ?_
                refine g_iconst (v := (1 : Int32)) dX12_readLiteral_113 (by decide) ?_
                obtain ⟨q183, e184, h⟩ := z_bd h
                refine g_callV (a := 137) (as := [.int (1 : Int32)]) (rest := []) (c := mX12_must) (k1 := 2) dX12_readLiteral_114 rfl rfl rfl sh_137 rfl rfl (Nat.le_of_ble_eq_true rfl) (Nat.le_of_ble_eq_true rfl) (by decide) ?_
                refine A_X12_must e184 ?_
                show z_G none 5 mX12_readLiteral 117 [some (.ref 139), some (.int a1), some (.int (z_tb q1.1)), some (.int (0 : Int32))] [] q183.2 Q
                refine g_iload_n dX12_readLiteral_117 rfl rfl ?_
                cases h
                exact g_iret dX12_readLiteral_118 rfl rfl hq
          · replace h := z_ift c161 h
            refine g_aload_n dX12_readLiteral_56 rfl rfl ?_
            obtain ⟨q185, e186, h⟩ := z_bd h
            refine g_callV (a := 137) (as := []) (rest := []) (c := mX12_named) (k1 := 0) dX12_readLiteral_57 rfl rfl rfl sh_137 rfl rfl (Nat.le_of_ble_eq_true rfl) (Nat.le_of_ble_eq_true rfl) (by decide) ?_
            refine A_X12_named e186 ?_
            show z_G none 5 mX12_readLiteral 60 [some (.ref 139), some (.int a1), some (.int (z_tb q1.1)), none] [.int q185.1] q185.2 Q
            refine g_if_ge (t := 72) dX12_readLiteral_60 (by decide) (fun c187 => ?_) (fun c187 => ?_)
            · replace h := z_ift c187 h
              refine g_iload_n dX12_readLiteral_72 rfl rfl ?_
              refine g_if_eq (t := 85) dX12_readLiteral_73 (by decide) (fun c188 => ?_) (fun c188 => ?_)
              · replace h := z_ift c188 h
                refine g_aload_n dX12_readLiteral_85 rfl rfl ?_
                refine g_get (a := 137) (v := .int (q185.2.1 137 12)) dX12_readLiteral_86 f_12_212 sh_137 rfl rfl ?_
                refine g_if_le (t := 96) dX12_readLiteral_89 (by decide) (fun c189 => ?_) (fun c189 => ?_)
                · replace h := z_ift c189 h
                  refine g_aload_n dX12_readLiteral_96 rfl rfl ?_
                  obtain ⟨q190, e191, h⟩ := z_bd h
                  refine g_callV (a := 137) (as := []) (rest := []) (c := mX12_named) (k1 := 0) dX12_readLiteral_97 rfl rfl rfl sh_137 rfl rfl (Nat.le_of_ble_eq_true rfl) (Nat.le_of_ble_eq_true rfl) (by decide) ?_
                  refine A_X12_named e191 ?_
                  show z_G none 5 mX12_readLiteral 100 [some (.ref 139), some (.int a1), some (.int (z_tb q1.1)), none] [.int q190.1] q190.2 Q
                  refine g_iload_n dX12_readLiteral_100 rfl rfl ?_
                  refine g_if_eq (t := 109) dX12_readLiteral_101 (by decide) (fun c192 => ?_) (fun c192 => ?_)
                  · replace h := z_iff (z_tb0.mp c192) h
                    refine g_iconst (v := (0 : Int32)) dX12_readLiteral_109 (by decide) ?_
                    refine g_iadd dX12_readLiteral_110 ?_
                    refine g_istore_n (ls' := [some (.ref 139), some (.int a1), some (.int (z_tb q1.1)), some (.int (q190.1 + (0 : Int32)))]) dX12_readLiteral_111 rfl (Nat.le_of_ble_eq_true rfl) rfl ?_
                    refine g_aload_n dX12_readLiteral_112 rfl rfl ?_
                    refine g_iconst (v := (1 : Int32)) dX12_readLiteral_113 (by decide) ?_
                    obtain ⟨q193, e194, h⟩ := z_bd h
                    refine g_callV (a := 137) (as := [.int (1 : Int32)]) (rest := []) (c := mX12_must) (k1 := 2) dX12_readLiteral_114 rfl rfl rfl sh_137 rfl rfl (Nat.le_of_ble_eq_true rfl) (Nat.le_of_ble_eq_true rfl) (by decide) ?_
                    refine A_X12_must e194 ?_
                    show z_G none 5 mX12_readLiteral 117 [some (.ref 139), some (.int a1), some (.int (z_tb q1.1)), some (.int (q190.1 + (0 : Int32)))] [] q193.2 Q
                    refine g_iload_n dX12_readLiteral_117 rfl rfl ?_
                    cases h
                    exact g_iret dX12_readLiteral_118 rfl rfl hq
                  · replace h := z_ift (z_tbn.mp c192) h
                    refine g_bipush (v := (6 : Int32)) dX12_readLiteral_104 (by decide) ?_
                    refine g_goto (t := 110) dX12_readLiteral_106 (by decide) ?_
                    refine g_iadd dX12_readLiteral_110 ?_
                    refine g_istore_n (ls' := [some (.ref 139), some (.int a1), some (.int (z_tb q1.1)), some (.int (q190.1 + (6 : Int32)))]) dX12_readLiteral_111 rfl (Nat.le_of_ble_eq_true rfl) rfl ?_
                    refine g_aload_n dX12_readLiteral_112 rfl rfl ?_
                    refine g_iconst (v := (1 : Int32)) dX12_readLiteral_113 (by decide) ?_
                    obtain ⟨q195, e196, h⟩ := z_bd h
                    refine g_callV (a := 137) (as := [.int (1 : Int32)]) (rest := []) (c := mX12_must) (k1 := 2) dX12_readLiteral_114 rfl rfl rfl sh_137 rfl rfl (Nat.le_of_ble_eq_true rfl) (Nat.le_of_ble_eq_true rfl) (by decide) ?_
                    refine A_X12_must e196 ?_
                    show z_G none 5 mX12_readLiteral 117 [some (.ref 139), some (.int a1), some (.int (z_tb q1.1)), some (.int (q190.1 + (6 : Int32)))] [] q195.2 Q
                    refine g_iload_n dX12_readLiteral_117 rfl rfl ?_
                    cases h
                    exact g_iret dX12_readLiteral_118 rfl rfl hq
                · replace h := z_iff c189 h
                  refine g_iconst (v := (0 : Int32)) dX12_readLiteral_92 (by decide) ?_
                  refine g_goto (t := 111) dX12_readLiteral_93 (by decide) ?_
                  refine g_istore_n (ls' := [some (.ref 139), some (.int a1), some (.int (z_tb q1.1)), some (.int (0 : Int32))]) dX12_readLiteral_111 rfl (Nat.le_of_ble_eq_true rfl) rfl ?_
                  refine g_aload_n dX12_readLiteral_112 rfl rfl ?_
                  refine g_iconst (v := (1 : Int32)) dX12_readLiteral_113 (by decide) ?_
                  obtain ⟨q197, e198, h⟩ := z_bd h
                  refine g_callV (a := 137) (as := [.int (1 : Int32)]) (rest := []) (c := mX12_must) (k1 := 2) dX12_readLiteral_114 rfl rfl rfl sh_137 rfl rfl (Nat.le_of_ble_eq_true rfl) (Nat.le_of_ble_eq_true rfl) (by decide) ?_
                  refine A_X12_must e198 ?_
                  show z_G none 5 mX12_readLiteral 117 [some (.ref 139), some (.int a1), some (.int (z_tb q1.1)), some (.int (0 : Int32))] [] q197.2 Q
                  refine g_iload_n dX12_readLiteral_117 rfl rfl ?_
                  cases h
                  exact g_iret dX12_readLiteral_118 rfl rfl hq
              · replace h := z_iff c188 h
                refine g_aload_n dX12_readLiteral_76 rfl rfl ?_
                refine g_iconst (v := (5 : Int32)) dX12_readLiteral_77 (by decide) ?_
                refine g_aload_n dX12_readLiteral_78 rfl rfl ?_
                refine g_get (a := 137) (v := .int (q185.2.1 137 15)) dX12_readLiteral_79 f_12_106 sh_137 rfl rfl ?_
                obtain ⟨q199, e200, h⟩ := z_bd h
                refine g_callV (a := 137) (as := [.int (5 : Int32), .int (q185.2.1 137 15)]) (rest := []) (c := mX12_fail) (k1 := 0) dX12_readLiteral_82 rfl rfl rfl sh_137 rfl rfl (Nat.le_of_ble_eq_true rfl) (Nat.le_of_ble_eq_true rfl) (by decide) ?_
                refine A_X12_fail e200 ?_
                show z_G none 5 mX12_readLiteral 85 [some (.ref 139), some (.int a1), some (.int (z_tb q1.1)), none] [] q199.2 Q
                refine g_aload_n dX12_readLiteral_85 rfl rfl ?_
                refine g_get (a := 137) (v := .int (q199.2.1 137 12)) dX12_readLiteral_86 f_12_212 sh_137 rfl rfl ?_
                refine g_if_le (t := 96) dX12_readLiteral_89 (by decide) (fun c201 => ?_) (fun c201 => ?_)
                · replace h := z_ift c201 h
                  refine g_aload_n dX12_readLiteral_96 rfl rfl ?_
                  obtain ⟨q202, e203, h⟩ := z_bd h
                  refine g_callV (a := 137) (as := []) (rest := []) (c := mX12_named) (k1 := 0) dX12_readLiteral_97 rfl rfl rfl sh_137 rfl rfl (Nat.le_of_ble_eq_true rfl) (Nat.le_of_ble_eq_true rfl) (by decide) ?_
                  refine A_X12_named e203 ?_
                  show z_G none 5 mX12_readLiteral 100 [some (.ref 139), some (.int a1), some (.int (z_tb q1.1)), none] [.int q202.1] q202.2 Q
                  refine g_iload_n dX12_readLiteral_100 rfl rfl ?_
                  refine g_if_eq (t := 109) dX12_readLiteral_101 (by decide) (fun c204 => ?_) (fun c204 => ?_)
                  · replace h := z_iff (z_tb0.mp c204) h
                    refine g_iconst (v := (0 : Int32)) dX12_readLiteral_109 (by decide) ?_
                    refine g_iadd dX12_readLiteral_110 ?_
                    refine g_istore_n (ls' := [some (.ref 139), some (.int a1), some (.int (z_tb q1.1)), some (.int (q202.1 + (0 : Int32)))]) dX12_readLiteral_111 rfl (Nat.le_of_ble_eq_true rfl) rfl ?_
                    refine g_aload_n dX12_readLiteral_112 rfl rfl ?_
                    refine g_iconst (v := (1 : Int32)) dX12_readLiteral_113 (by decide) ?_
                    obtain ⟨q205, e206, h⟩ := z_bd h
                    refine g_callV (a := 137) (as := [.int (1 : Int32)]) (rest := []) (c := mX12_must) (k1 := 2) dX12_readLiteral_114 rfl rfl rfl sh_137 rfl rfl (Nat.le_of_ble_eq_true rfl) (Nat.le_of_ble_eq_true rfl) (by decide) ?_
                    refine A_X12_must e206 ?_
                    show z_G none 5 mX12_readLiteral 117 [some (.ref 139), some (.int a1), some (.int (z_tb q1.1)), some (.int (q202.1 + (0 : Int32)))] [] q205.2 Q
                    refine g_iload_n dX12_readLiteral_117 rfl rfl ?_
                    cases h
                    exact g_iret dX12_readLiteral_118 rfl rfl hq
                  · replace h := z_ift (z_tbn.mp c204) h
                    refine g_bipush (v := (6 : Int32)) dX12_readLiteral_104 (by decide) ?_
                    refine g_goto (t := 110) dX12_readLiteral_106 (by decide) ?_
                    refine g_iadd dX12_readLiteral_110 ?_
                    refine g_istore_n (ls' := [some (.ref 139), some (.int a1), some (.int (z_tb q1.1)), some (.int (q202.1 + (6 : Int32)))]) dX12_readLiteral_111 rfl (Nat.le_of_ble_eq_true rfl) rfl ?_
                    refine g_aload_n dX12_readLiteral_112 rfl rfl ?_
                    refine g_iconst (v := (1 : Int32)) dX12_readLiteral_113 (by decide) ?_
                    obtain ⟨q207, e208, h⟩ := z_bd h
                    refine g_callV (a := 137) (as := [.int (1 : Int32)]) (rest := []) (c := mX12_must) (k1 := 2) dX12_readLiteral_114 rfl rfl rfl sh_137 rfl rfl (Nat.le_of_ble_eq_true rfl) (Nat.le_of_ble_eq_true rfl) (by decide) ?_
                    refine A_X12_must e208 ?_
                    show z_G none 5 mX12_readLiteral 117 [some (.ref 139), some (.int a1), some (.int (z_tb q1.1)), some (.int (q202.1 + (6 : Int32)))] [] q207.2 Q
                    refine g_iload_n dX12_readLiteral_117 rfl rfl ?_
                    cases h
                    exact g_iret dX12_readLiteral_118 rfl rfl hq
                · replace h := z_iff c201 h
                  refine g_iconst (v := (0 : Int32)) dX12_readLiteral_92 (by decide) ?_
                  refine g_goto (t := 111) dX12_readLiteral_93 (by decide) ?_
                  refine g_istore_n (ls' := [some (.ref 139), some (.int a1), some (.int (z_tb q1.1)), some (.int (0 : Int32))]) dX12_readLiteral_111 rfl (Nat.le_of_ble_eq_true rfl) rfl ?_
                  refine g_aload_n dX12_readLiteral_112 rfl rfl ?_
                  refine g_iconst (v := (1 : Int32)) dX12_readLiteral_113 (by decide) ?_
                  obtain ⟨q209, e210, h⟩ := z_bd h
                  refine g_callV (a := 137) (as := [.int (1 : Int32)]) (rest := []) (c := mX12_must) (k1 := 2) dX12_readLiteral_114 rfl rfl rfl sh_137 rfl rfl (Nat.le_of_ble_eq_true rfl) (Nat.le_of_ble_eq_true rfl) (by decide) ?_
                  refine A_X12_must e210 ?_
                  show z_G none 5 mX12_readLiteral 117 [some (.ref 139), some (.int a1), some (.int (z_tb q1.1)), some (.int (0 : Int32))] [] q209.2 Q
                  refine g_iload_n dX12_readLiteral_117 rfl rfl ?_
                  cases h
                  exact g_iret dX12_readLiteral_118 rfl rfl hq
            · replace h := z_iff c187 h
              refine g_aload_n dX12_readLiteral_63 rfl rfl ?_
              refine g_iconst (v := (3 : Int32)) dX12_readLiteral_64 (by decide) ?_
              refine g_aload_n dX12_readLiteral_65 rfl rfl ?_
              refine g_get (a := 137) (v := .int (q185.2.1 137 15)) dX12_readLiteral_66 f_12_106 sh_137 rfl rfl ?_
              obtain ⟨q211, e212, h⟩ := z_bd h
              refine g_callV (a := 137) (as := [.int (3 : Int32), .int (q185.2.1 137 15)]) (rest := []) (c := mX12_fail) (k1 := 0) dX12_readLiteral_69 rfl rfl rfl sh_137 rfl rfl (Nat.le_of_ble_eq_true rfl) (Nat.le_of_ble_eq_true rfl) (by decide) ?_
              refine A_X12_fail e212 ?_
              show z_G none 5 mX12_readLiteral 72 [some (.ref 139), some (.int a1), some (.int (z_tb q1.1)), none] [] q211.2 Q
              refine g_iload_n dX12_readLiteral_72 rfl rfl ?_
              refine g_if_eq (t := 85) dX12_readLiteral_73 (by decide) (fun c213 => ?_) (fun c213 => ?_)
              · replace h := z_ift c213 h
                refine g_aload_n dX12_readLiteral_85 rfl rfl ?_
                refine g_get (a := 137) (v := .int (q211.2.1 137 12)) dX12_readLiteral_86 f_12_212 sh_137 rfl rfl ?_
                refine g_if_le (t := 96) dX12_readLiteral_89 (by decide) (fun c214 => ?_) (fun c214 => ?_)
                · replace h := z_ift c214 h
                  refine g_aload_n dX12_readLiteral_96 rfl rfl ?_
                  obtain ⟨q215, e216, h⟩ := z_bd h
                  refine g_callV (a := 137) (as := []) (rest := []) (c := mX12_named) (k1 := 0) dX12_readLiteral_97 rfl rfl rfl sh_137 rfl rfl (Nat.le_of_ble_eq_true rfl) (Nat.le_of_ble_eq_true rfl) (by decide) ?_
                  refine A_X12_named e216 ?_
                  show z_G none 5 mX12_readLiteral 100 [some (.ref 139), some (.int a1), some (.int (z_tb q1.1)), none] [.int q215.1] q215.2 Q
                  refine g_iload_n dX12_readLiteral_100 rfl rfl ?_
                  refine g_if_eq (t := 109) dX12_readLiteral_101 (by decide) (fun c217 => ?_) (fun c217 => ?_)
                  · replace h := z_iff (z_tb0.mp c217) h
                    refine g_iconst (v := (0 : Int32)) dX12_readLiteral_109 (by decide) ?_
                    refine g_iadd dX12_readLiteral_110 ?_
                    refine g_istore_n (ls' := [some (.ref 139), some (.int a1), some (.int (z_tb q1.1)), some (.int (q215.1 + (0 : Int32)))]) dX12_readLiteral_111 rfl (Nat.le_of_ble_eq_true rfl) rfl ?_
                    refine g_aload_n dX12_readLiteral_112 rfl rfl ?_
                    refine g_iconst (v := (1 : Int32)) dX12_readLiteral_113 (by decide) ?_
                    obtain ⟨q218, e219, h⟩ := z_bd h
                    refine g_callV (a := 137) (as := [.int (1 : Int32)]) (rest := []) (c := mX12_must) (k1 := 2) dX12_readLiteral_114 rfl rfl rfl sh_137 rfl rfl (Nat.le_of_ble_eq_true rfl) (Nat.le_of_ble_eq_true rfl) (by decide) ?_
                    refine A_X12_must e219 ?_
                    show z_G none 5 mX12_readLiteral 117 [some (.ref 139), some (.int a1), some (.int (z_tb q1.1)), some (.int (q215.1 + (0 : Int32)))] [] q218.2 Q
                    refine g_iload_n dX12_readLiteral_117 rfl rfl ?_
                    cases h
                    exact g_iret dX12_readLiteral_118 rfl rfl hq
                  · replace h := z_ift (z_tbn.mp c217) h
                    refine g_bipush (v := (6 : Int32)) dX12_readLiteral_104 (by decide) ?_
                    refine g_goto (t := 110) dX12_readLiteral_106 (by decide) ?_
                    refine g_iadd dX12_readLiteral_110 ?_
                    refine g_istore_n (ls' := [some (.ref 139), some (.int a1), some (.int (z_tb q1.1)), some (.int (q215.1 + (6 : Int32)))]) dX12_readLiteral_111 rfl (Nat.le_of_ble_eq_true rfl) rfl ?_
                    refine g_aload_n dX12_readLiteral_112 rfl rfl ?_
                    refine g_iconst (v := (1 : Int32)) dX12_readLiteral_113 (by decide) ?_
                    obtain ⟨q220, e221, h⟩ := z_bd h
                    refine g_callV (a := 137) (as := [.int (1 : Int32)]) (rest := []) (c := mX12_must) (k1 := 2) dX12_readLiteral_114 rfl rfl rfl sh_137 rfl rfl (Nat.le_of_ble_eq_true rfl) (Nat.le_of_ble_eq_true rfl) (by decide) ?_
                    refine A_X12_must e221 ?_
                    show z_G none 5 mX12_readLiteral 117 [some (.ref 139), some (.int a1), some (.int (z_tb q1.1)), some (.int (q215.1 + (6 : Int32)))] [] q220.2 Q
                    refine g_iload_n dX12_readLiteral_117 rfl rfl ?_
                    cases h
                    exact g_iret dX12_readLiteral_118 rfl rfl hq
                · replace h := z_iff c214 h
                  refine g_iconst (v := (0 : Int32)) dX12_readLiteral_92 (by decide) ?_
                  refine g_goto (t := 111) dX12_readLiteral_93 (by decide) ?_
                  refine g_istore_n (ls' := [some (.ref 139), some (.int a1), some (.int (z_tb q1.1)), some (.int (0 : Int32))]) dX12_readLiteral_111 rfl (Nat.le_of_ble_eq_true rfl) rfl ?_
                  refine g_aload_n dX12_readLiteral_112 rfl rfl ?_
                  refine g_iconst (v := (1 : Int32)) dX12_readLiteral_113 (by decide) ?_
                  obtain ⟨q222, e223, h⟩ := z_bd h
                  refine g_callV (a := 137) (as := [.int (1 : Int32)]) (rest := []) (c := mX12_must) (k1 := 2) dX12_readLiteral_114 rfl rfl rfl sh_137 rfl rfl (Nat.le_of_ble_eq_true rfl) (Nat.le_of_ble_eq_true rfl) (by decide) ?_
                  refine A_X12_must e223 ?_
                  show z_G none 5 mX12_readLiteral 117 [some (.ref 139), some (.int a1), some (.int (z_tb q1.1)), some (.int (0 : Int32))] [] q222.2 Q
                  refine g_iload_n dX12_readLiteral_117 rfl rfl ?_
                  cases h
                  exact g_iret dX12_readLiteral_118 rfl rfl hq
              · replace h := z_iff c213 h
                refine g_aload_n dX12_readLiteral_76 rfl rfl ?_
                refine g_iconst (v := (5 : Int32)) dX12_readLiteral_77 (by decide) ?_
                refine g_aload_n dX12_readLiteral_78 rfl rfl ?_
                refine g_get (a := 137) (v := .int (q211.2.1 137 15)) dX12_readLiteral_79 f_12_106 sh_137 rfl rfl ?_
                obtain ⟨q224, e225, h⟩ := z_bd h
                refine g_callV (a := 137) (as := [.int (5 : Int32), .int (q211.2.1 137 15)]) (rest := []) (c := mX12_fail) (k1 := 0) dX12_readLiteral_82 rfl rfl rfl sh_137 rfl rfl (Nat.le_of_ble_eq_true rfl) (Nat.le_of_ble_eq_true rfl) (by decide) ?_
                refine A_X12_fail e225 ?_
                show z_G none 5 mX12_readLiteral 85 [some (.ref 139), some (.int a1), some (.int (z_tb q1.1)), none] [] q224.2 Q
                refine g_aload_n dX12_readLiteral_85 rfl rfl ?_
                refine g_get (a := 137) (v := .int (q224.2.1 137 12)) dX12_readLiteral_86 f_12_212 sh_137 rfl rfl ?_
                refine g_if_le (t := 96) dX12_readLiteral_89 (by decide) (fun c226 => ?_) (fun c226 => ?_)
                · replace h := z_ift c226 h
                  refine g_aload_n dX12_readLiteral_96 rfl rfl ?_
                  obtain ⟨q227, e228, h⟩ := z_bd h
                  refine g_callV (a := 137) (as := []) (rest := []) (c := mX12_named) (k1 := 0) dX12_readLiteral_97 rfl rfl rfl sh_137 rfl rfl (Nat.le_of_ble_eq_true rfl) (Nat.le_of_ble_eq_true rfl) (by decide) ?_
                  refine A_X12_named e228 ?_
                  show z_G none 5 mX12_readLiteral 100 [some (.ref 139), some (.int a1), some (.int (z_tb q1.1)), none] [.int q227.1] q227.2 Q
                  refine g_iload_n dX12_readLiteral_100 rfl rfl ?_
                  refine g_if_eq (t := 109) dX12_readLiteral_101 (by decide) (fun c229 => ?_) (fun c229 => ?_)
                  · replace h := z_iff (z_tb0.mp c229) h
                    refine g_iconst (v := (0 : Int32)) dX12_readLiteral_109 (by decide) ?_
                    refine g_iadd dX12_readLiteral_110 ?_
                    refine g_istore_n (ls' := [some (.ref 139), some (.int a1), some (.int (z_tb q1.1)), some (.int (q227.1 + (0 : Int32)))]) dX12_readLiteral_111 rfl (Nat.le_of_ble_eq_true rfl) rfl ?_
                    refine g_aload_n dX12_readLiteral_112 rfl rfl ?_
                    refine g_iconst (v := (1 : Int32)) dX12_readLiteral_113 (by decide) ?_
                    obtain ⟨q230, e231, h⟩ := z_bd h
                    refine g_callV (a := 137) (as := [.int (1 : Int32)]) (rest := []) (c := mX12_must) (k1 := 2) dX12_readLiteral_114 rfl rfl rfl sh_137 rfl rfl (Nat.le_of_ble_eq_true rfl) (Nat.le_of_ble_eq_true rfl) (by decide) ?_
                    refine A_X12_must e231 ?_
                    show z_G none 5 mX12_readLiteral 117 [some (.ref 139), some (.int a1), some (.int (z_tb q1.1)), some (.int (q227.1 + (0 : Int32)))] [] q230.2 Q
                    refine g_iload_n dX12_readLiteral_117 rfl rfl ?_
                    cases h
                    exact g_iret dX12_readLiteral_118 rfl rfl hq
                  · replace h := z_ift (z_tbn.mp c229) h
                    refine g_bipush (v := (6 : Int32)) dX12_readLiteral_104 (by decide) ?_
                    refine g_goto (t := 110) dX12_readLiteral_106 (by decide) ?_
                    refine g_iadd dX12_readLiteral_110 ?_
                    refine g_istore_n (ls' := [some (.ref 139), some (.int a1), some (.int (z_tb q1.1)), some (.int (q227.1 + (6 : Int32)))]) dX12_readLiteral_111 rfl (Nat.le_of_ble_eq_true rfl) rfl ?_
                    refine g_aload_n dX12_readLiteral_112 rfl rfl ?_
                    refine g_iconst (v := (1 : Int32)) dX12_readLiteral_113 (by decide) ?_
                    obtain ⟨q232, e233, h⟩ := z_bd h
                    refine g_callV (a := 137) (as := [.int (1 : Int32)]) (rest := []) (c := mX12_must) (k1 := 2) dX12_readLiteral_114 rfl rfl rfl sh_137 rfl rfl (Nat.le_of_ble_eq_true rfl) (Nat.le_of_ble_eq_true rfl) (by decide) ?_
                    refine A_X12_must e233 ?_
                    show z_G none 5 mX12_readLiteral 117 [some (.ref 139), some (.int a1), some (.int (z_tb q1.1)), some (.int (q227.1 + (6 : Int32)))] [] q232.2 Q
                    refine g_iload_n dX12_readLiteral_117 rfl rfl ?_
                    cases h
                    exact g_iret dX12_readLiteral_118 rfl rfl hq
                · replace h := z_iff c226 h
                  refine g_iconst (v := (0 : Int32)) dX12_readLiteral_92 (by decide) ?_
                  refine g_goto (t := 111) dX12_readLiteral_93 (by decide) ?_
                  refine g_istore_n (ls' := [some (.ref 139), some (.int a1), some (.int (z_tb q1.1)), some (.int (0 : Int32))]) dX12_readLiteral_111 rfl (Nat.le_of_ble_eq_true rfl) rfl ?_
                  refine g_aload_n dX12_readLiteral_112 rfl rfl ?_
                  refine g_iconst (v := (1 : Int32)) dX12_readLiteral_113 (by decide) ?_
                  obtain ⟨q234, e235, h⟩ := z_bd h
                  refine g_callV (a := 137) (as := [.int (1 : Int32)]) (rest := []) (c := mX12_must) (k1 := 2) dX12_readLiteral_114 rfl rfl rfl sh_137 rfl rfl (Nat.le_of_ble_eq_true rfl) (Nat.le_of_ble_eq_true rfl) (by decide) ?_
                  refine A_X12_must e235 ?_
                  show z_G none 5 mX12_readLiteral 117 [some (.ref 139), some (.int a1), some (.int (z_tb q1.1)), some (.int (0 : Int32))] [] q234.2 Q
                  refine g_iload_n dX12_readLiteral_117 rfl rfl ?_
                  cases h
                  exact g_iret dX12_readLiteral_118 rfl rfl hq
    · replace h := z_ift (z_tbn.mp c4) h
      refine g_aload_n dX12_readLiteral_26 rfl rfl ?_
      refine g_iconst (v := (1 : Int32)) dX12_readLiteral_27 (by decide) ?_
      obtain ⟨q236, e237, h⟩ := z_bd h
      refine g_callV (a := 137) (as := [.int (1 : Int32)]) (rest := []) (c := mX12_must) (k1 := 2) dX12_readLiteral_28 rfl rfl rfl sh_137 rfl rfl (Nat.le_of_ble_eq_true rfl) (Nat.le_of_ble_eq_true rfl) (by decide) ?_
      refine A_X12_must e237 ?_
      show z_G none 5 mX12_readLiteral 31 [some (.ref 139), some (.int a1), some (.int (z_tb q1.1)), none] [] q236.2 Q
      refine g_aload_n dX12_readLiteral_31 rfl rfl ?_
      refine g_get (a := 137) (v := .int (q236.2.1 137 12)) dX12_readLiteral_32 f_12_212 sh_137 rfl rfl ?_
      refine g_if_ne (t := 49) dX12_readLiteral_35 (by decide) (fun c238 => ?_) (fun c238 => ?_)
      · replace h := z_iff c238 h
        refine g_aload_n dX12_readLiteral_49 rfl rfl ?_
        refine g_get (a := 137) (v := .int (q236.2.1 137 12)) dX12_readLiteral_50 f_12_212 sh_137 rfl rfl ?_
        refine g_if_ne (t := 72) dX12_readLiteral_53 (by decide) (fun c239 => ?_) (fun c239 => ?_)
        · replace h := z_iff c239 h
          refine g_iload_n dX12_readLiteral_72 rfl rfl ?_
          refine g_if_eq (t := 85) dX12_readLiteral_73 (by decide) (fun c240 => ?_) (fun c240 => ?_)
          · replace h := z_ift c240 h
            refine g_aload_n dX12_readLiteral_85 rfl rfl ?_
            refine g_get (a := 137) (v := .int (q236.2.1 137 12)) dX12_readLiteral_86 f_12_212 sh_137 rfl rfl ?_
            refine g_if_le (t := 96) dX12_readLiteral_89 (by decide) (fun c241 => ?_) (fun c241 => ?_)
            · replace h := z_ift c241 h
              refine g_aload_n dX12_readLiteral_96 rfl rfl ?_
              obtain ⟨q242, e243, h⟩ := z_bd h
              refine g_callV (a := 137) (as := []) (rest := []) (c := mX12_named) (k1 := 0) dX12_readLiteral_97 rfl rfl rfl sh_137 rfl rfl (Nat.le_of_ble_eq_true rfl) (Nat.le_of_ble_eq_true rfl) (by decide) ?_
              refine A_X12_named e243 ?_
              show z_G none 5 mX12_readLiteral 100 [some (.ref 139), some (.int a1), some (.int (z_tb q1.1)), none] [.int q242.1] q242.2 Q
              refine g_iload_n dX12_readLiteral_100 rfl rfl ?_
              refine g_if_eq (t := 109) dX12_readLiteral_101 (by decide) (fun c244 => ?_) (fun c244 => ?_)
              · replace h := z_iff (z_tb0.mp c244) h
                refine g_iconst (v := (0 : Int32)) dX12_readLiteral_109 (by decide) ?_
                refine g_iadd dX12_readLiteral_110 ?_
                refine g_istore_n (ls' := [some (.ref 139), some (.int a1), some (.int (z_tb q1.1)), some (.int (q242.1 + (0 : Int32)))]) dX12_readLiteral_111 rfl (Nat.le_of_ble_eq_true rfl) rfl ?_
                refine g_aload_n dX12_readLiteral_112 rfl rfl ?_
                refine g_iconst (v := (1 : Int32)) dX12_readLiteral_113 (by decide) ?_
                obtain ⟨q245, e246, h⟩ := z_bd h
                refine g_callV (a := 137) (as := [.int (1 : Int32)]) (rest := []) (c := mX12_must) (k1 := 2) dX12_readLiteral_114 rfl rfl rfl sh_137 rfl rfl (Nat.le_of_ble_eq_true rfl) (Nat.le_of_ble_eq_true rfl) (by decide) ?_
                refine A_X12_must e246 ?_
                show z_G none 5 mX12_readLiteral 117 [some (.ref 139), some (.int a1), some (.int (z_tb q1.1)), some (.int (q242.1 + (0 : Int32)))] [] q245.2 Q
                refine g_iload_n dX12_readLiteral_117 rfl rfl ?_
                cases h
                exact g_iret dX12_readLiteral_118 rfl rfl hq
              · replace h := z_ift (z_tbn.mp c244) h
                refine g_bipush (v := (6 : Int32)) dX12_readLiteral_104 (by decide) ?_
                refine g_goto (t := 110) dX12_readLiteral_106 (by decide) ?_
                refine g_iadd dX12_readLiteral_110 ?_
                refine g_istore_n (ls' := [some (.ref 139), some (.int a1), some (.int (z_tb q1.1)), some (.int (q242.1 + (6 : Int32)))]) dX12_readLiteral_111 rfl (Nat.le_of_ble_eq_true rfl) rfl ?_
                refine g_aload_n dX12_readLiteral_112 rfl rfl ?_
                refine g_iconst (v := (1 : Int32)) dX12_readLiteral_113 (by decide) ?_
                obtain ⟨q247, e248, h⟩ := z_bd h
                refine g_callV (a := 137) (as := [.int (1 : Int32)]) (rest := []) (c := mX12_must) (k1 := 2) dX12_readLiteral_114 rfl rfl rfl sh_137 rfl rfl (Nat.le_of_ble_eq_true rfl) (Nat.le_of_ble_eq_true rfl) (by decide) ?_
                refine A_X12_must e248 ?_
                show z_G none 5 mX12_readLiteral 117 [some (.ref 139), some (.int a1), some (.int (z_tb q1.1)), some (.int (q242.1 + (6 : Int32)))] [] q247.2 Q
                refine g_iload_n dX12_readLiteral_117 rfl rfl ?_
                cases h
                exact g_iret dX12_readLiteral_118 rfl rfl hq
            · replace h := z_iff c241 h
              refine g_iconst (v := (0 : Int32)) dX12_readLiteral_92 (by decide) ?_
              refine g_goto (t := 111) dX12_readLiteral_93 (by decide) ?_
              refine g_istore_n (ls' := [some (.ref 139), some (.int a1), some (.int (z_tb q1.1)), some (.int (0 : Int32))]) dX12_readLiteral_111 rfl (Nat.le_of_ble_eq_true rfl) rfl ?_
              refine g_aload_n dX12_readLiteral_112 rfl rfl ?_
              refine g_iconst (v := (1 : Int32)) dX12_readLiteral_113 (by decide) ?_
              obtain ⟨q249, e250, h⟩ := z_bd h
              refine g_callV (a := 137) (as := [.int (1 : Int32)]) (rest := []) (c := mX12_must) (k1 := 2) dX12_readLiteral_114 rfl rfl rfl sh_137 rfl rfl (Nat.le_of_ble_eq_true rfl) (Nat.le_of_ble_eq_true rfl) (by decide) ?_
              refine A_X12_must e250 ?_
              show z_G none 5 mX12_readLiteral 117 [some (.ref 139), some (.int a1), some (.int (z_tb q1.1)), some (.int (0 : Int32))] [] q249.2 Q
              refine g_iload_n dX12_readLiteral_117 rfl rfl ?_
              cases h
              exact g_iret dX12_readLiteral_118 rfl rfl hq
          · replace h := z_iff c240 h
            refine g_aload_n dX12_readLiteral_76 rfl rfl ?_
            refine g_iconst (v := (5 : Int32)) dX12_readLiteral_77 (by decide) ?_
            refine g_aload_n dX12_readLiteral_78 rfl rfl ?_
            refine g_get (a := 137) (v := .int (q236.2.1 137 15)) dX12_readLiteral_79 f_12_106 sh_137 rfl rfl ?_
            obtain ⟨q251, e252, h⟩ := z_bd h
            refine g_callV (a := 137) (as := [.int (5 : Int32), .int (q236.2.1 137 15)]) (rest := []) (c := mX12_fail) (k1 := 0) dX12_readLiteral_82 rfl rfl rfl sh_137 rfl rfl (Nat.le_of_ble_eq_true rfl) (Nat.le_of_ble_eq_true rfl) (by decide) ?_
            refine A_X12_fail e252 ?_
            show z_G none 5 mX12_readLiteral 85 [some (.ref 139), some (.int a1), some (.int (z_tb q1.1)), none] [] q251.2 Q
            refine g_aload_n dX12_readLiteral_85 rfl rfl ?_
            refine g_get (a := 137) (v := .int (q251.2.1 137 12)) dX12_readLiteral_86 f_12_212 sh_137 rfl rfl ?_
            refine g_if_le (t := 96) dX12_readLiteral_89 (by decide) (fun c253 => ?_) (fun c253 => ?_)
            · replace h := z_ift c253 h
              refine g_aload_n dX12_readLiteral_96 rfl rfl ?_
              obtain ⟨q254, e255, h⟩ := z_bd h
              refine g_callV (a := 137) (as := []) (rest := []) (c := mX12_named) (k1 := 0) dX12_readLiteral_97 rfl rfl rfl sh_137 rfl rfl (Nat.le_of_ble_eq_true rfl) (Nat.le_of_ble_eq_true rfl) (by decide) ?_
              refine A_X12_named e255 ?_
              show z_G none 5 mX12_readLiteral 100 [some (.ref 139), some (.int a1), some (.int (z_tb q1.1)), none] [.int q254.1] q254.2 Q
              refine g_iload_n dX12_readLiteral_100 rfl rfl ?_
              refine g_if_eq (t := 109) dX12_readLiteral_101 (by decide) (fun c256 => ?_) (fun c256 => ?_)
              · replace h := z_iff (z_tb0.mp c256) h
                refine g_iconst (v := (0 : Int32)) dX12_readLiteral_109 (by decide) ?_
                refine g_iadd dX12_readLiteral_110 ?_
                refine g_istore_n (ls' := [some (.ref 139), some (.int a1), some (.int (z_tb q1.1)), some (.int (q254.1 + (0 : Int32)))]) dX12_readLiteral_111 rfl (Nat.le_of_ble_eq_true rfl) rfl ?_
                refine g_aload_n dX12_readLiteral_112 rfl rfl ?_
                refine g_iconst (v := (1 : Int32)) dX12_readLiteral_113 (by decide) ?_
                obtain ⟨q257, e258, h⟩ := z_bd h
                refine g_callV (a := 137) (as := [.int (1 : Int32)]) (rest := []) (c := mX12_must) (k1 := 2) dX12_readLiteral_114 rfl rfl rfl sh_137 rfl rfl (Nat.le_of_ble_eq_true rfl) (Nat.le_of_ble_eq_true rfl) (by decide) ?_
                refine A_X12_must e258 ?_
                show z_G none 5 mX12_readLiteral 117 [some (.ref 139), some (.int a1), some (.int (z_tb q1.1)), some (.int (q254.1 + (0 : Int32)))] [] q257.2 Q
                refine g_iload_n dX12_readLiteral_117 rfl rfl ?_
                cases h
                exact g_iret dX12_readLiteral_118 rfl rfl hq
              · replace h := z_ift (z_tbn.mp c256) h
                refine g_bipush (v := (6 : Int32)) dX12_readLiteral_104 (by decide) ?_
                refine g_goto (t := 110) dX12_readLiteral_106 (by decide) ?_
                refine g_iadd dX12_readLiteral_110 ?_
                refine g_istore_n (ls' := [some (.ref 139), some (.int a1), some (.int (z_tb q1.1)), some (.int (q254.1 + (6 : Int32)))]) dX12_readLiteral_111 rfl (Nat.le_of_ble_eq_true rfl) rfl ?_
                refine g_aload_n dX12_readLiteral_112 rfl rfl ?_
                refine g_iconst (v := (1 : Int32)) dX12_readLiteral_113 (by decide) ?_
                obtain ⟨q259, e260, h⟩ := z_bd h
                refine g_callV (a := 137) (as := [.int (1 : Int32)]) (rest := []) (c := mX12_must) (k1 := 2) dX12_readLiteral_114 rfl rfl rfl sh_137 rfl rfl (Nat.le_of_ble_eq_true rfl) (Nat.le_of_ble_eq_true rfl) (by decide) ?_
                refine A_X12_must e260 ?_
                show z_G none 5 mX12_readLiteral 117 [some (.ref 139), some (.int a1), some (.int (z_tb q1.1)), some (.int (q254.1 + (6 : Int32)))] [] q259.2 Q
                refine g_iload_n dX12_readLiteral_117 rfl rfl ?_
                cases h
                exact g_iret dX12_readLiteral_118 rfl rfl hq
            · replace h := z_iff c253 h
              refine g_iconst (v := (0 : Int32)) dX12_readLiteral_92 (by decide) ?_
              refine g_goto (t := 111) dX12_readLiteral_93 (by decide) ?_
              refine g_istore_n (ls' := [some (.ref 139), some (.int a1), some (.int (z_tb q1.1)), some (.int (0 : Int32))]) dX12_readLiteral_111 rfl (Nat.le_of_ble_eq_true rfl) rfl ?_
              refine g_aload_n dX12_readLiteral_112 rfl rfl ?_
              refine g_iconst (v := (1 : Int32)) dX12_readLiteral_113 (by decide) ?_
              obtain ⟨q261, e262, h⟩ := z_bd h
              refine g_callV (a := 137) (as := [.int (1 : Int32)]) (rest := []) (c := mX12_must) (k1 := 2) dX12_readLiteral_114 rfl rfl rfl sh_137 rfl rfl (Nat.le_of_ble_eq_true rfl) (Nat.le_of_ble_eq_true rfl) (by decide) ?_
              refine A_X12_must e262 ?_
              show z_G none 5 mX12_readLiteral 117 [some (.ref 139), some (.int a1), some (.int (z_tb q1.1)), some (.int (0 : Int32))] [] q261.2 Q
              refine g_iload_n dX12_readLiteral_117 rfl rfl ?_
              cases h
              exact g_iret dX12_readLiteral_118 rfl rfl hq
        · replace h := z_ift c239 h
          refine g_aload_n dX12_readLiteral_56 rfl rfl ?_
          obtain ⟨q263, e264, h⟩ := z_bd h
          refine g_callV (a := 137) (as := []) (rest := []) (c := mX12_named) (k1 := 0) dX12_readLiteral_57 rfl rfl rfl sh_137 rfl rfl (Nat.le_of_ble_eq_true rfl) (Nat.le_of_ble_eq_true rfl) (by decide) ?_
          refine A_X12_named e264 ?_
          show z_G none 5 mX12_readLiteral 60 [some (.ref 139), some (.int a1), some (.int (z_tb q1.1)), none] [.int q263.1] q263.2 Q
          refine g_if_ge (t := 72) dX12_readLiteral_60 (by decide) (fun c265 => ?_) (fun c265 => ?_)
          · replace h := z_ift c265 h
            refine g_iload_n dX12_readLiteral_72 rfl rfl ?_
            refine g_if_eq (t := 85) dX12_readLiteral_73 (by decide) (fun c266 => ?_) (fun c266 => ?_)
            · replace h := z_ift c266 h
              refine g_aload_n dX12_readLiteral_85 rfl rfl ?_
              refine g_get (a := 137) (v := .int (q263.2.1 137 12)) dX12_readLiteral_86 f_12_212 sh_137 rfl rfl ?_
              refine g_if_le (t := 96) dX12_readLiteral_89 (by decide) (fun c267 => ?_) (fun c267 => ?_)
              · replace h := z_ift c267 h
                refine g_aload_n dX12_readLiteral_96 rfl rfl ?_
                obtain ⟨q268, e269, h⟩ := z_bd h
                refine g_callV (a := 137) (as := []) (rest := []) (c := mX12_named) (k1 := 0) dX12_readLiteral_97 rfl rfl rfl sh_137 rfl rfl (Nat.le_of_ble_eq_true rfl) (Nat.le_of_ble_eq_true rfl) (by decide) ?_
                refine A_X12_named e269 ?_
                show z_G none 5 mX12_readLiteral 100 [some (.ref 139), some (.int a1), some (.int (z_tb q1.1)), none] [.int q268.1] q268.2 Q
                refine g_iload_n dX12_readLiteral_100 rfl rfl ?_
                refine g_if_eq (t := 109) dX12_readLiteral_101 (by decide) (fun c270 => ?_) (fun c270 => ?_)
                · replace h := z_iff (z_tb0.mp c270) h
                  refine g_iconst (v := (0 : Int32)) dX12_readLiteral_109 (by decide) ?_
                  refine g_iadd dX12_readLiteral_110 ?_
                  refine g_istore_n (ls' := [some (.ref 139), some (.int a1), some (.int (z_tb q1.1)), some (.int (q268.1 + (0 : Int32)))]) dX12_readLiteral_111 rfl (Nat.le_of_ble_eq_true rfl) rfl ?_
                  refine g_aload_n dX12_readLiteral_112 rfl rfl ?_
                  refine g_iconst (v := (1 : Int32)) dX12_readLiteral_113 (by decide) ?_
                  obtain ⟨q271, e272, h⟩ := z_bd h
                  refine g_callV (a := 137) (as := [.int (1 : Int32)]) (rest := []) (c := mX12_must) (k1 := 2) dX12_readLiteral_114 rfl rfl rfl sh_137 rfl rfl (Nat.le_of_ble_eq_true rfl) (Nat.le_of_ble_eq_true rfl) (by decide) ?_
                  refine A_X12_must e272 ?_
                  show z_G none 5 mX12_readLiteral 117 [some (.ref 139), some (.int a1), some (.int (z_tb q1.1)), some (.int (q268.1 + (0 : Int32)))] [] q271.2 Q
                  refine g_iload_n dX12_readLiteral_117 rfl rfl ?_
                  cases h
                  exact g_iret dX12_readLiteral_118 rfl rfl hq
                · replace h := z_ift (z_tbn.mp c270) h
                  refine g_bipush (v := (6 : Int32)) dX12_readLiteral_104 (by decide) ?_
                  refine g_goto (t := 110) dX12_readLiteral_106 (by decide) ?_
                  refine g_iadd dX12_readLiteral_110 ?_
                  refine g_istore_n (ls' := [some (.ref 139), some (.int a1), some (.int (z_tb q1.1)), some (.int (q268.1 + (6 : Int32)))]) dX12_readLiteral_111 rfl (Nat.le_of_ble_eq_true rfl) rfl ?_
                  refine g_aload_n dX12_readLiteral_112 rfl rfl ?_
                  refine g_iconst (v := (1 : Int32)) dX12_readLiteral_113 (by decide) ?_
                  obtain ⟨q273, e274, h⟩ := z_bd h
                  refine g_callV (a := 137) (as := [.int (1 : Int32)]) (rest := []) (c := mX12_must) (k1 := 2) dX12_readLiteral_114 rfl rfl rfl sh_137 rfl rfl (Nat.le_of_ble_eq_true rfl) (Nat.le_of_ble_eq_true rfl) (by decide) ?_
                  refine A_X12_must e274 ?_
                  show z_G none 5 mX12_readLiteral 117 [some (.ref 139), some (.int a1), some (.int (z_tb q1.1)), some (.int (q268.1 + (6 : Int32)))] [] q273.2 Q
                  refine g_iload_n dX12_readLiteral_117 rfl rfl ?_
                  cases h
                  exact g_iret dX12_readLiteral_118 rfl rfl hq
              · replace h := z_iff c267 h
                refine g_iconst (v := (0 : Int32)) dX12_readLiteral_92 (by decide) ?_
                refine g_goto (t := 111) dX12_readLiteral_93 (by decide) ?_
                refine g_istore_n (ls' := [some (.ref 139), some (.int a1), some (.int (z_tb q1.1)), some (.int (0 : Int32))]) dX12_readLiteral_111 rfl (Nat.le_of_ble_eq_true rfl) rfl ?_
                refine g_aload_n dX12_readLiteral_112 rfl rfl ?_
                refine g_iconst (v := (1 : Int32)) dX12_readLiteral_113 (by decide) ?_
                obtain ⟨q275, e276, h⟩ := z_bd h
                refine g_callV (a := 137) (as := [.int (1 : Int32)]) (rest := []) (c := mX12_must) (k1 := 2) dX12_readLiteral_114 rfl rfl rfl sh_137 rfl rfl (Nat.le_of_ble_eq_true rfl) (Nat.le_of_ble_eq_true rfl) (by decide) ?_
                refine A_X12_must e276 ?_
                show z_G none 5 mX12_readLiteral 117 [some (.ref 139), some (.int a1), some (.int (z_tb q1.1)), some (.int (0 : Int32))] [] q275.2 Q
                refine g_iload_n dX12_readLiteral_117 rfl rfl ?_
                cases h
                exact g_iret dX12_readLiteral_118 rfl rfl hq
            · replace h := z_iff c266 h
              refine g_aload_n dX12_readLiteral_76 rfl rfl ?_
              refine g_iconst (v := (5 : Int32)) dX12_readLiteral_77 (by decide) ?_
              refine g_aload_n dX12_readLiteral_78 rfl rfl ?_
              refine g_get (a := 137) (v := .int (q263.2.1 137 15)) dX12_readLiteral_79 f_12_106 sh_137 rfl rfl ?_
              obtain ⟨q277, e278, h⟩ := z_bd h
              refine g_callV (a := 137) (as := [.int (5 : Int32), .int (q263.2.1 137 15)]) (rest := []) (c := mX12_fail) (k1 := 0) dX12_readLiteral_82 rfl rfl rfl sh_137 rfl rfl (Nat.le_of_ble_eq_true rfl) (Nat.le_of_ble_eq_true rfl) (by decide) ?_
              refine A_X12_fail e278 ?_
              show z_G none 5 mX12_readLiteral 85 [some (.ref 139), some (.int a1), some (.int (z_tb q1.1)), none] [] q277.2 Q
              refine g_aload_n dX12_readLiteral_85 rfl rfl ?_
              refine g_get (a := 137) (v := .int (q277.2.1 137 12)) dX12_readLiteral_86 f_12_212 sh_137 rfl rfl ?_
              refine g_if_le (t := 96) dX12_readLiteral_89 (by decide) (fun c279 => ?_) (fun c279 => ?_)
              · replace h := z_ift c279 h
                refine g_aload_n dX12_readLiteral_96 rfl rfl ?_
                obtain ⟨q280, e281, h⟩ := z_bd h
                refine g_callV (a := 137) (as := []) (rest := []) (c := mX12_named) (k1 := 0) dX12_readLiteral_97 rfl rfl rfl sh_137 rfl rfl (Nat.le_of_ble_eq_true rfl) (Nat.le_of_ble_eq_true rfl) (by decide) ?_
                refine A_X12_named e281 ?_
                show z_G none 5 mX12_readLiteral 100 [some (.ref 139), some (.int a1), some (.int (z_tb q1.1)), none] [.int q280.1] q280.2 Q
                refine g_iload_n dX12_readLiteral_100 rfl rfl ?_
                refine g_if_eq (t := 109) dX12_readLiteral_101 (by decide) (fun c282 => ?_) (fun c282 => ?_)
                · replace h := z_iff (z_tb0.mp c282) h
                  refine g_iconst (v := (0 : Int32)) dX12_readLiteral_109 (by decide) ?_
                  refine g_iadd dX12_readLiteral_110 ?_
                  refine g_istore_n (ls' := [some (.ref 139), some (.int a1), some (.int (z_tb q1.1)), some (.int (q280.1 + (0 : Int32)))]) dX12_readLiteral_111 rfl (Nat.le_of_ble_eq_true rfl) rfl ?_
                  refine g_aload_n dX12_readLiteral_112 rfl rfl ?_
                  refine g_iconst (v := (1 : Int32)) dX12_readLiteral_113 (by decide) ?_
                  obtain ⟨q283, e284, h⟩ := z_bd h
                  refine g_callV (a := 137) (as := [.int (1 : Int32)]) (rest := []) (c := mX12_must) (k1 := 2) dX12_readLiteral_114 rfl rfl rfl sh_137 rfl rfl (Nat.le_of_ble_eq_true rfl) (Nat.le_of_ble_eq_true rfl) (by decide) ?_
                  refine A_X12_must e284 ?_
                  show z_G none 5 mX12_readLiteral 117 [some (.ref 139), some (.int a1), some (.int (z_tb q1.1)), some (.int (q280.1 + (0 : Int32)))] [] q283.2 Q
                  refine g_iload_n dX12_readLiteral_117 rfl rfl ?_
                  cases h
                  exact g_iret dX12_readLiteral_118 rfl rfl hq
                · replace h := z_ift (z_tbn.mp c282) h
                  refine g_bipush (v := (6 : Int32)) dX12_readLiteral_104 (by decide) ?_
                  refine g_goto (t := 110) dX12_readLiteral_106 (by decide) ?_
                  refine g_iadd dX12_readLiteral_110 ?_
                  refine g_istore_n (ls' := [some (.ref 139), some (.int a1), some (.int (z_tb q1.1)), some (.int (q280.1 + (6 : Int32)))]) dX12_readLiteral_111 rfl (Nat.le_of_ble_eq_true rfl) rfl ?_
                  refine g_aload_n dX12_readLiteral_112 rfl rfl ?_
                  refine g_iconst (v := (1 : Int32)) dX12_readLiteral_113 (by decide) ?_
                  obtain ⟨q285, e286, h⟩ := z_bd h
                  refine g_callV (a := 137) (as := [.int (1 : Int32)]) (rest := []) (c := mX12_must) (k1 := 2) dX12_readLiteral_114 rfl rfl rfl sh_137 rfl rfl (Nat.le_of_ble_eq_true rfl) (Nat.le_of_ble_eq_true rfl) (by decide) ?_
                  refine A_X12_must e286 ?_
                  show z_G none 5 mX12_readLiteral 117 [some (.ref 139), some (.int a1), some (.int (z_tb q1.1)), some (.int (q280.1 + (6 : Int32)))] [] q285.2 Q
                  refine g_iload_n dX12_readLiteral_117 rfl rfl ?_
                  cases h
                  exact g_iret dX12_readLiteral_118 rfl rfl hq
              · replace h := z_iff c279 h
                refine g_iconst (v := (0 : Int32)) dX12_readLiteral_92 (by decide) ?_
                refine g_goto (t := 111) dX12_readLiteral_93 (by decide) ?_
                refine g_istore_n (ls' := [some (.ref 139), some (.int a1), some (.int (z_tb q1.1)), some (.int (0 : Int32))]) dX12_readLiteral_111 rfl (Nat.le_of_ble_eq_true rfl) rfl ?_
                refine g_aload_n dX12_readLiteral_112 rfl rfl ?_
                refine g_iconst (v := (1 : Int32)) dX12_readLiteral_113 (by decide) ?_
                obtain ⟨q287, e288, h⟩ := z_bd h
                refine g_callV (a := 137) (as := [.int (1 : Int32)]) (rest := []) (c := mX12_must) (k1 := 2) dX12_readLiteral_114 rfl rfl rfl sh_137 rfl rfl (Nat.le_of_ble_eq_true rfl) (Nat.le_of_ble_eq_true rfl) (by decide) ?_
                refine A_X12_must e288 ?_
                show z_G none 5 mX12_readLiteral 117 [some (.ref 139), some (.int a1), some (.int (z_tb q1.1)), some (.int (0 : Int32))] [] q287.2 Q
                refine g_iload_n dX12_readLiteral_117 rfl rfl ?_
                cases h
                exact g_iret dX12_readLiteral_118 rfl rfl hq
          · replace h := z_iff c265 h
            refine g_aload_n dX12_readLiteral_63 rfl rfl ?_
            refine g_iconst (v := (3 : Int32)) dX12_readLiteral_64 (by decide) ?_
            refine g_aload_n dX12_readLiteral_65 rfl rfl ?_
            refine g_get (a := 137) (v := .int (q263.2.1 137 15)) dX12_readLiteral_66 f_12_106 sh_137 rfl rfl ?_
            obtain ⟨q289, e290, h⟩ := z_bd h
            refine g_callV (a := 137) (as := [.int (3 : Int32), .int (q263.2.1 137 15)]) (rest := []) (c := mX12_fail) (k1 := 0) dX12_readLiteral_69 rfl rfl rfl sh_137 rfl rfl (Nat.le_of_ble_eq_true rfl) (Nat.le_of_ble_eq_true rfl) (by decide) ?_
            refine A_X12_fail e290 ?_
            show z_G none 5 mX12_readLiteral 72 [some (.ref 139), some (.int a1), some (.int (z_tb q1.1)), none] [] q289.2 Q
            refine g_iload_n dX12_readLiteral_72 rfl rfl ?_
            refine g_if_eq (t := 85) dX12_readLiteral_73 (by decide) (fun c291 => ?_) (fun c291 => ?_)
            · replace h := z_ift c291 h
              refine g_aload_n dX12_readLiteral_85 rfl rfl ?_
              refine g_get (a := 137) (v := .int (q289.2.1 137 12)) dX12_readLiteral_86 f_12_212 sh_137 rfl rfl ?_
              refine g_if_le (t := 96) dX12_readLiteral_89 (by decide) (fun c292 => ?_) (fun c292 => ?_)
              · replace h := z_ift c292 h
                refine g_aload_n dX12_readLiteral_96 rfl rfl ?_
                obtain ⟨q293, e294, h⟩ := z_bd h
                refine g_callV (a := 137) (as := []) (rest := []) (c := mX12_named) (k1 := 0) dX12_readLiteral_97 rfl rfl rfl sh_137 rfl rfl (Nat.le_of_ble_eq_true rfl) (Nat.le_of_ble_eq_true rfl) (by decide) ?_
                refine A_X12_named e294 ?_
                show z_G none 5 mX12_readLiteral 100 [some (.ref 139), some (.int a1), some (.int (z_tb q1.1)), none] [.int q293.1] q293.2 Q
                refine g_iload_n dX12_readLiteral_100 rfl rfl ?_
                refine g_if_eq (t := 109) dX12_readLiteral_101 (by decide) (fun c295 => ?_) (fun c295 => ?_)
                · replace h := z_iff (z_tb0.mp c295) h
                  refine g_iconst (v := (0 : Int32)) dX12_readLiteral_109 (by decide) ?_
                  refine g_iadd dX12_readLiteral_110 ?_
                  refine g_istore_n (ls' := [some (.ref 139), some (.int a1), some (.int (z_tb q1.1)), some (.int (q293.1 + (0 : Int32)))]) dX12_readLiteral_111 rfl (Nat.le_of_ble_eq_true rfl) rfl ?_
                  refine g_aload_n dX12_readLiteral_112 rfl rfl ?_
                  refine g_iconst (v := (1 : Int32)) dX12_readLiteral_113 (by decide) ?_
                  obtain ⟨q296, e297, h⟩ := z_bd h
                  refine g_callV (a := 137) (as := [.int (1 : Int32)]) (rest := []) (c := mX12_must) (k1 := 2) dX12_readLiteral_114 rfl rfl rfl sh_137 rfl rfl (Nat.le_of_ble_eq_true rfl) (Nat.le_of_ble_eq_true rfl) (by decide) ?_
                  refine A_X12_must e297 ?_
                  show z_G none 5 mX12_readLiteral 117 [some (.ref 139), some (.int a1), some (.int (z_tb q1.1)), some (.int (q293.1 + (0 : Int32)))] [] q296.2 Q
                  refine g_iload_n dX12_readLiteral_117 rfl rfl ?_
                  cases h
                  exact g_iret dX12_readLiteral_118 rfl rfl hq
                · replace h := z_ift (z_tbn.mp c295) h
                  refine g_bipush (v := (6 : Int32)) dX12_readLiteral_104 (by decide) ?_
                  refine g_goto (t := 110) dX12_readLiteral_106 (by decide) ?_
                  refine g_iadd dX12_readLiteral_110 ?_
                  refine g_istore_n (ls' := [some (.ref 139), some (.int a1), some (.int (z_tb q1.1)), some (.int (q293.1 + (6 : Int32)))]) dX12_readLiteral_111 rfl (Nat.le_of_ble_eq_true rfl) rfl ?_
                  refine g_aload_n dX12_readLiteral_112 rfl rfl ?_
                  refine g_iconst (v := (1 : Int32)) dX12_readLiteral_113 (by decide) ?_
                  obtain ⟨q298, e299, h⟩ := z_bd h
                  refine g_callV (a := 137) (as := [.int (1 : Int32)]) (rest := []) (c := mX12_must) (k1 := 2) dX12_readLiteral_114 rfl rfl rfl sh_137 rfl rfl (Nat.le_of_ble_eq_true rfl) (Nat.le_of_ble_eq_true rfl) (by decide) ?_
                  refine A_X12_must e299 ?_
                  show z_G none 5 mX12_readLiteral 117 [some (.ref 139), some (.int a1), some (.int (z_tb q1.1)), some (.int (q293.1 + (6 : Int32)))] [] q298.2 Q
                  refine g_iload_n dX12_readLiteral_117 rfl rfl ?_
                  cases h
                  exact g_iret dX12_readLiteral_118 rfl rfl hq
              · replace h := z_iff c292 h
                refine g_iconst (v := (0 : Int32)) dX12_readLiteral_92 (by decide) ?_
                refine g_goto (t := 111) dX12_readLiteral_93 (by decide) ?_
                refine g_istore_n (ls' := [some (.ref 139), some (.int a1), some (.int (z_tb q1.1)), some (.int (0 : Int32))]) dX12_readLiteral_111 rfl (Nat.le_of_ble_eq_true rfl) rfl ?_
                refine g_aload_n dX12_readLiteral_112 rfl rfl ?_
                refine g_iconst (v := (1 : Int32)) dX12_readLiteral_113 (by decide) ?_
                obtain ⟨q300, e301, h⟩ := z_bd h
                refine g_callV (a := 137) (as := [.int (1 : Int32)]) (rest := []) (c := mX12_must) (k1 := 2) dX12_readLiteral_114 rfl rfl rfl sh_137 rfl rfl (Nat.le_of_ble_eq_true rfl) (Nat.le_of_ble_eq_true rfl) (by decide) ?_
                refine A_X12_must e301 ?_
                show z_G none 5 mX12_readLiteral 117 [some (.ref 139), some (.int a1), some (.int (z_tb q1.1)), some (.int (0 : Int32))] [] q300.2 Q
                refine g_iload_n dX12_readLiteral_117 rfl rfl ?_
                cases h
                exact g_iret dX12_readLiteral_118 rfl rfl hq
            · replace h := z_iff c291 h
              refine g_aload_n dX12_readLiteral_76 rfl rfl ?_
              refine g_iconst (v := (5 : Int32)) dX12_readLiteral_77 (by decide) ?_
              refine g_aload_n dX12_readLiteral_78 rfl rfl ?_
              refine g_get (a := 137) (v := .int (q289.2.1 137 15)) dX12_readLiteral_79 f_12_106 sh_137 rfl rfl ?_
              obtain ⟨q302, e303, h⟩ := z_bd h
              refine g_callV (a := 137) (as := [.int (5 : Int32), .int (q289.2.1 137 15)]) (rest := []) (c := mX12_fail) (k1 := 0) dX12_readLiteral_82 rfl rfl rfl sh_137 rfl rfl (Nat.le_of_ble_eq_true rfl) (Nat.le_of_ble_eq_true rfl) (by decide) ?_
              refine A_X12_fail e303 ?_
              show z_G none 5 mX12_readLiteral 85 [some (.ref 139), some (.int a1), some (.int (z_tb q1.1)), none] [] q302.2 Q
              refine g_aload_n dX12_readLiteral_85 rfl rfl ?_
              refine g_get (a := 137) (v := .int (q302.2.1 137 12)) dX12_readLiteral_86 f_12_212 sh_137 rfl rfl ?_
              refine g_if_le (t := 96) dX12_readLiteral_89 (by decide) (fun c304 => ?_) (fun c304 => ?_)
              · replace h := z_ift c304 h
                refine g_aload_n dX12_readLiteral_96 rfl rfl ?_
                obtain ⟨q305, e306, h⟩ := z_bd h
                refine g_callV (a := 137) (as := []) (rest := []) (c := mX12_named) (k1 := 0) dX12_readLiteral_97 rfl rfl rfl sh_137 rfl rfl (Nat.le_of_ble_eq_true rfl) (Nat.le_of_ble_eq_true rfl) (by decide) ?_
                refine A_X12_named e306 ?_
                show z_G none 5 mX12_readLiteral 100 [some (.ref 139), some (.int a1), some (.int (z_tb q1.1)), none] [.int q305.1] q305.2 Q
                refine g_iload_n dX12_readLiteral_100 rfl rfl ?_
                refine g_if_eq (t := 109) dX12_readLiteral_101 (by decide) (fun c307 => ?_) (fun c307 => ?_)
                · replace h := z_iff (z_tb0.mp c307) h
                  refine g_iconst (v := (0 : Int32)) dX12_readLiteral_109 (by decide) ?_
                  refine g_iadd dX12_readLiteral_110 ?_
                  refine g_istore_n (ls' := [some (.ref 139), some (.int a1), some (.int (z_tb q1.1)), some (.int (q305.1 + (0 : Int32)))]) dX12_readLiteral_111 rfl (Nat.le_of_ble_eq_true rfl) rfl ?_
                  refine g_aload_n dX12_readLiteral_112 rfl rfl ?_
                  refine g_iconst (v := (1 : Int32)) dX12_readLiteral_113 (by decide) ?_
                  obtain ⟨q308, e309, h⟩ := z_bd h
                  refine g_callV (a := 137) (as := [.int (1 : Int32)]) (rest := []) (c := mX12_must) (k1 := 2) dX12_readLiteral_114 rfl rfl rfl sh_137 rfl rfl (Nat.le_of_ble_eq_true rfl) (Nat.le_of_ble_eq_true rfl) (by decide) ?_
                  refine A_X12_must e309 ?_
                  show z_G none 5 mX12_readLiteral 117 [some (.ref 139), some (.int a1), some (.int (z_tb q1.1)), some (.int (q305.1 + (0 : Int32)))] [] q308.2 Q
                  refine g_iload_n dX12_readLiteral_117 rfl rfl ?_
                  cases h
                  exact g_iret dX12_readLiteral_118 rfl rfl hq
                · replace h := z_ift (z_tbn.mp c307) h
                  refine g_bipush (v := (6 : Int32)) dX12_readLiteral_104 (by decide) ?_
                  refine g_goto (t := 110) dX12_readLiteral_106 (by decide) ?_
                  refine g_iadd dX12_readLiteral_110 ?_
                  refine g_istore_n (ls' := [some (.ref 139), some (.int a1), some (.int (z_tb q1.1)), some (.int (q305.1 + (6 : Int32)))]) dX12_readLiteral_111 rfl (Nat.le_of_ble_eq_true rfl) rfl ?_
                  refine g_aload_n dX12_readLiteral_112 rfl rfl ?_
                  refine g_iconst (v := (1 : Int32)) dX12_readLiteral_113 (by decide) ?_
                  obtain ⟨q310, e311, h⟩ := z_bd h
                  refine g_callV (a := 137) (as := [.int (1 : Int32)]) (rest := []) (c := mX12_must) (k1 := 2) dX12_readLiteral_114 rfl rfl rfl sh_137 rfl rfl (Nat.le_of_ble_eq_true rfl) (Nat.le_of_ble_eq_true rfl) (by decide) ?_
                  refine A_X12_must e311 ?_
                  show z_G none 5 mX12_readLiteral 117 [some (.ref 139), some (.int a1), some (.int (z_tb q1.1)), some (.int (q305.1 + (6 : Int32)))] [] q310.2 Q
                  refine g_iload_n dX12_readLiteral_117 rfl rfl ?_
                  cases h
                  exact g_iret dX12_readLiteral_118 rfl rfl hq
              · replace h := z_iff c304 h
                refine g_iconst (v := (0 : Int32)) dX12_readLiteral_92 (by decide) ?_
                refine g_goto (t := 111) dX12_readLiteral_93 (by decide) ?_
                refine g_istore_n (ls' := [some (.ref 139), some (.int a1), some (.int (z_tb q1.1)), some (.int (0 : Int32))]) dX12_readLiteral_111 rfl (Nat.le_of_ble_eq_true rfl) rfl ?_
                refine g_aload_n dX12_readLiteral_112 rfl rfl ?_
                refine g_iconst (v := (1 : Int32)) dX12_readLiteral_113 (by decide) ?_
                obtain ⟨q312, e313, h⟩ := z_bd h
                refine g_callV (a := 137) (as := [.int (1 : Int32)]) (rest := []) (c := mX12_must) (k1 := 2) dX12_readLiteral_114 rfl rfl rfl sh_137 rfl rfl (Nat.le_of_ble_eq_true rfl) (Nat.le_of_ble_eq_true rfl) (by decide) ?_
                refine A_X12_must e313 ?_
                show z_G none 5 mX12_readLiteral 117 [some (.ref 139), some (.int a1), some (.int (z_tb q1.1)), some (.int (0 : Int32))] [] q312.2 Q
                refine g_iload_n dX12_readLiteral_117 rfl rfl ?_
                cases h
                exact g_iret dX12_readLiteral_118 rfl rfl hq
      · replace h := z_ift c238 h
        refine g_aload_n dX12_readLiteral_38 rfl rfl ?_
        obtain ⟨q314, e315, h⟩ := z_bd h
        refine g_callV (a := 137) (as := []) (rest := []) (c := mX12_isName) (k1 := 4) dX12_readLiteral_39 rfl rfl rfl sh_137 rfl rfl (Nat.le_of_ble_eq_true rfl) (Nat.le_of_ble_eq_true rfl) (by decide) ?_
        refine A_X12_isName e315 ?_
        show z_G none 5 mX12_readLiteral 42 [some (.ref 139), some (.int a1), some (.int (z_tb q1.1)), none] [.int (z_tb q314.1)] q314.2 Q
        refine g_if_ne (t := 49) dX12_readLiteral_42 (by decide) (fun c316 => ?_) (fun c316 => ?_)
        · replace h := z_ift (z_tbn.mp c316) h
          refine g_aload_n dX12_readLiteral_49 rfl rfl ?_
          refine g_get (a := 137) (v := .int (q314.2.1 137 12)) dX12_readLiteral_50 f_12_212 sh_137 rfl rfl ?_
          refine g_if_ne (t := 72) dX12_readLiteral_53 (by decide) (fun c317 => ?_) (fun c317 => ?_)
          · replace h := z_iff c317 h
            refine g_iload_n dX12_readLiteral_72 rfl rfl ?_
            refine g_if_eq (t := 85) dX12_readLiteral_73 (by decide) (fun c318 => ?_) (fun c318 => ?_)
            · replace h := z_ift c318 h
              refine g_aload_n dX12_readLiteral_85 rfl rfl ?_
              refine g_get (a := 137) (v := .int (q314.2.1 137 12)) dX12_readLiteral_86 f_12_212 sh_137 rfl rfl ?_
              refine g_if_le (t := 96) dX12_readLiteral_89 (by decide) (fun c319 => ?_) (fun c319 => ?_)
              · replace h := z_ift c319 h
                refine g_aload_n dX12_readLiteral_96 rfl rfl ?_
                obtain ⟨q320, e321, h⟩ := z_bd h
                refine g_callV (a := 137) (as := []) (rest := []) (c := mX12_named) (k1 := 0) dX12_readLiteral_97 rfl rfl rfl sh_137 rfl rfl (Nat.le_of_ble_eq_true rfl) (Nat.le_of_ble_eq_true rfl) (by decide) ?_
                refine A_X12_named e321 ?_
                show z_G none 5 mX12_readLiteral 100 [some (.ref 139), some (.int a1), some (.int (z_tb q1.1)), none] [.int q320.1] q320.2 Q
                refine g_iload_n dX12_readLiteral_100 rfl rfl ?_
                refine g_if_eq (t := 109) dX12_readLiteral_101 (by decide) (fun c322 => ?_) (fun c322 => ?_)
                · replace h := z_iff (z_tb0.mp c322) h
                  refine g_iconst (v := (0 : Int32)) dX12_readLiteral_109 (by decide) ?_
                  refine g_iadd dX12_readLiteral_110 ?_
                  refine g_istore_n (ls' := [some (.ref 139), some (.int a1), some (.int (z_tb q1.1)), some (.int (q320.1 + (0 : Int32)))]) dX12_readLiteral_111 rfl (Nat.le_of_ble_eq_true rfl) rfl ?_
                  refine g_aload_n dX12_readLiteral_112 rfl rfl ?_
                  refine g_iconst (v := (1 : Int32)) dX12_readLiteral_113 (by decide) ?_
                  obtain ⟨q323, e324, h⟩ := z_bd h
                  refine g_callV (a := 137) (as := [.int (1 : Int32)]) (rest := []) (c := mX12_must) (k1 := 2) dX12_readLiteral_114 rfl rfl rfl sh_137 rfl rfl (Nat.le_of_ble_eq_true rfl) (Nat.le_of_ble_eq_true rfl) (by decide) ?_
                  refine A_X12_must e324 ?_
                  show z_G none 5 mX12_readLiteral 117 [some (.ref 139), some (.int a1), some (.int (z_tb q1.1)), some (.int (q320.1 + (0 : Int32)))] [] q323.2 Q
                  refine g_iload_n dX12_readLiteral_117 rfl rfl ?_
                  cases h
                  exact g_iret dX12_readLiteral_118 rfl rfl hq
                · replace h := z_ift (z_tbn.mp c322) h
                  refine g_bipush (v := (6 : Int32)) dX12_readLiteral_104 (by decide) ?_
                  refine g_goto (t := 110) dX12_readLiteral_106 (by decide) ?_
                  refine g_iadd dX12_readLiteral_110 ?_
                  refine g_istore_n (ls' := [some (.ref 139), some (.int a1), some (.int (z_tb q1.1)), some (.int (q320.1 + (6 : Int32)))]) dX12_readLiteral_111 rfl (Nat.le_of_ble_eq_true rfl) rfl ?_
                  refine g_aload_n dX12_readLiteral_112 rfl rfl ?_
                  refine g_iconst (v := (1 : Int32)) dX12_readLiteral_113 (by decide) ?_
                  obtain ⟨q325, e326, h⟩ := z_bd h
                  refine g_callV (a := 137) (as := [.int (1 : Int32)]) (rest := []) (c := mX12_must) (k1 := 2) dX12_readLiteral_114 rfl rfl rfl sh_137 rfl rfl (Nat.le_of_ble_eq_true rfl) (Nat.le_of_ble_eq_true rfl) (by decide) ?_
                  refine A_X12_must e326 ?_
                  show z_G none 5 mX12_readLiteral 117 [some (.ref 139), some (.int a1), some (.int (z_tb q1.1)), some (.int (q320.1 + (6 : Int32)))] [] q325.2 Q
                  refine g_iload_n dX12_readLiteral_117 rfl rfl ?_
                  cases h
                  exact g_iret dX12_readLiteral_118 rfl rfl hq
              · replace h := z_iff c319 h
                refine g_iconst (v := (0 : Int32)) dX12_readLiteral_92 (by decide) ?_
                refine g_goto (t := 111) dX12_readLiteral_93 (by decide) ?_
                refine g_istore_n (ls' := [some (.ref 139), some (.int a1), some (.int (z_tb q1.1)), some (.int (0 : Int32))]) dX12_readLiteral_111 rfl (Nat.le_of_ble_eq_true rfl) rfl ?_
                refine g_aload_n dX12_readLiteral_112 rfl rfl ?_
                refine g_iconst (v := (1 : Int32)) dX12_readLiteral_113 (by decide) ?_
                obtain ⟨q327, e328, h⟩ := z_bd h
                refine g_callV (a := 137) (as := [.int (1 : Int32)]) (rest := []) (c := mX12_must) (k1 := 2) dX12_readLiteral_114 rfl rfl rfl sh_137 rfl rfl (Nat.le_of_ble_eq_true rfl) (Nat.le_of_ble_eq_true rfl) (by decide) ?_
                refine A_X12_must e328 ?_
                show z_G none 5 mX12_readLiteral 117 [some (.ref 139), some (.int a1), some (.int (z_tb q1.1)), some (.int (0 : Int32))] [] q327.2 Q
                refine g_iload_n dX12_readLiteral_117 rfl rfl ?_
                cases h
                exact g_iret dX12_readLiteral_118 rfl rfl hq
            · replace h := z_iff c318 h
              refine g_aload_n dX12_readLiteral_76 rfl rfl ?_
              refine g_iconst (v := (5 : Int32)) dX12_readLiteral_77 (by decide) ?_
              refine g_aload_n dX12_readLiteral_78 rfl rfl ?_
              refine g_get (a := 137) (v := .int (q314.2.1 137 15)) dX12_readLiteral_79 f_12_106 sh_137 rfl rfl ?_
              obtain ⟨q329, e330, h⟩ := z_bd h
              refine g_callV (a := 137) (as := [.int (5 : Int32), .int (q314.2.1 137 15)]) (rest := []) (c := mX12_fail) (k1 := 0) dX12_readLiteral_82 rfl rfl rfl sh_137 rfl rfl (Nat.le_of_ble_eq_true rfl) (Nat.le_of_ble_eq_true rfl) (by decide) ?_
              refine A_X12_fail e330 ?_
              show z_G none 5 mX12_readLiteral 85 [some (.ref 139), some (.int a1), some (.int (z_tb q1.1)), none] [] q329.2 Q
              refine g_aload_n dX12_readLiteral_85 rfl rfl ?_
              refine g_get (a := 137) (v := .int (q329.2.1 137 12)) dX12_readLiteral_86 f_12_212 sh_137 rfl rfl ?_
              refine g_if_le (t := 96) dX12_readLiteral_89 (by decide) (fun c331 => ?_) (fun c331 => ?_)
              · replace h := z_ift c331 h
                refine g_aload_n dX12_readLiteral_96 rfl rfl ?_
                obtain ⟨q332, e333, h⟩ := z_bd h
                refine g_callV (a := 137) (as := []) (rest := []) (c := mX12_named) (k1 := 0) dX12_readLiteral_97 rfl rfl rfl sh_137 rfl rfl (Nat.le_of_ble_eq_true rfl) (Nat.le_of_ble_eq_true rfl) (by decide) ?_
                refine A_X12_named e333 ?_
                show z_G none 5 mX12_readLiteral 100 [some (.ref 139), some (.int a1), some (.int (z_tb q1.1)), none] [.int q332.1] q332.2 Q
                refine g_iload_n dX12_readLiteral_100 rfl rfl ?_
                refine g_if_eq (t := 109) dX12_readLiteral_101 (by decide) (fun c334 => ?_) (fun c334 => ?_)
                · replace h := z_iff (z_tb0.mp c334) h
                  refine g_iconst (v := (0 : Int32)) dX12_readLiteral_109 (by decide) ?_
                  refine g_iadd dX12_readLiteral_110 ?_
                  refine g_istore_n (ls' := [some (.ref 139), some (.int a1), some (.int (z_tb q1.1)), some (.int (q332.1 + (0 : Int32)))]) dX12_readLiteral_111 rfl (Nat.le_of_ble_eq_true rfl) rfl ?_
                  refine g_aload_n dX12_readLiteral_112 rfl rfl ?_
                  refine g_iconst (v := (1 : Int32)) dX12_readLiteral_113 (by decide) ?_
                  obtain ⟨q335, e336, h⟩ := z_bd h
                  refine g_callV (a := 137) (as := [.int (1 : Int32)]) (rest := []) (c := mX12_must) (k1 := 2) dX12_readLiteral_114 rfl rfl rfl sh_137 rfl rfl (Nat.le_of_ble_eq_true rfl) (Nat.le_of_ble_eq_true rfl) (by decide) ?_
                  refine A_X12_must e336 ?_
                  show z_G none 5 mX12_readLiteral 117 [some (.ref 139), some (.int a1), some (.int (z_tb q1.1)), some (.int (q332.1 + (0 : Int32)))] [] q335.2 Q
                  refine g_iload_n dX12_readLiteral_117 rfl rfl ?_
                  cases h
                  exact g_iret dX12_readLiteral_118 rfl rfl hq
                · replace h := z_ift (z_tbn.mp c334) h
                  refine g_bipush (v := (6 : Int32)) dX12_readLiteral_104 (by decide) ?_
                  refine g_goto (t := 110) dX12_readLiteral_106 (by decide) ?_
                  refine g_iadd dX12_readLiteral_110 ?_
                  refine g_istore_n (ls' := [some (.ref 139), some (.int a1), some (.int (z_tb q1.1)), some (.int (q332.1 + (6 : Int32)))]) dX12_readLiteral_111 rfl (Nat.le_of_ble_eq_true rfl) rfl ?_
                  refine g_aload_n dX12_readLiteral_112 rfl rfl ?_
                  refine g_iconst (v := (1 : Int32)) dX12_readLiteral_113 (by decide) ?_
                  obtain ⟨q337, e338, h⟩ := z_bd h
                  refine g_callV (a := 137) (as := [.int (1 : Int32)]) (rest := []) (c := mX12_must) (k1 := 2) dX12_readLiteral_114 rfl rfl rfl sh_137 rfl rfl (Nat.le_of_ble_eq_true rfl) (Nat.le_of_ble_eq_true rfl) (by decide) ?_
                  refine A_X12_must e338 ?_
                  show z_G none 5 mX12_readLiteral 117 [some (.ref 139), some (.int a1), some (.int (z_tb q1.1)), some (.int (q332.1 + (6 : Int32)))] [] q337.2 Q
                  refine g_iload_n dX12_readLiteral_117 rfl rfl ?_
                  cases h
                  exact g_iret dX12_readLiteral_118 rfl rfl hq
              · replace h := z_iff c331 h
                refine g_iconst (v := (0 : Int32)) dX12_readLiteral_92 (by decide) ?_
                refine g_goto (t := 111) dX12_readLiteral_93 (by decide) ?_
                refine g_istore_n (ls' := [some (.ref 139), some (.int a1), some (.int (z_tb q1.1)), some (.int (0 : Int32))]) dX12_readLiteral_111 rfl (Nat.le_of_ble_eq_true rfl) rfl ?_
                refine g_aload_n dX12_readLiteral_112 rfl rfl ?_
                refine g_iconst (v := (1 : Int32)) dX12_readLiteral_113 (by decide) ?_
                obtain ⟨q339, e340, h⟩ := z_bd h
                refine g_callV (a := 137) (as := [.int (1 : Int32)]) (rest := []) (c := mX12_must) (k1 := 2) dX12_readLiteral_114 rfl rfl rfl sh_137 rfl rfl (Nat.le_of_ble_eq_true rfl) (Nat.le_of_ble_eq_true rfl) (by decide) ?_
                refine A_X12_must e340 ?_
                show z_G none 5 mX12_readLiteral 117 [some (.ref 139), some (.int a1), some (.int (z_tb q1.1)), some (.int (0 : Int32))] [] q339.2 Q
                refine g_iload_n dX12_readLiteral_117 rfl rfl ?_
                cases h
                exact g_iret dX12_readLiteral_118 rfl rfl hq
          · replace h := z_ift c317 h
            refine g_aload_n dX12_readLiteral_56 rfl rfl ?_
            obtain ⟨q341, e342, h⟩ := z_bd h
            refine g_callV (a := 137) (as := []) (rest := []) (c := mX12_named) (k1 := 0) dX12_readLiteral_57 rfl rfl rfl sh_137 rfl rfl (Nat.le_of_ble_eq_true rfl) (Nat.le_of_ble_eq_true rfl) (by decide) ?_
            refine A_X12_named e342 ?_
            show z_G none 5 mX12_readLiteral 60 [some (.ref 139), some (.int a1), some (.int (z_tb q1.1)), none] [.int q341.1] q341.2 Q
            refine g_if_ge (t := 72) dX12_readLiteral_60 (by decide) (fun c343 => ?_) (fun c343 => ?_)
            · replace h := z_ift c343 h
              refine g_iload_n dX12_readLiteral_72 rfl rfl ?_
              refine g_if_eq (t := 85) dX12_readLiteral_73 (by decide) (fun c344 => ?_) (fun c344 => ?_)
              · replace h := z_ift c344 h
                refine g_aload_n dX12_readLiteral_85 rfl rfl ?_
                refine g_get (a := 137) (v := .int (q341.2.1 137 12)) dX12_readLiteral_86 f_12_212 sh_137 rfl rfl ?_
                refine g_if_le (t := 96) dX12_readLiteral_89 (by decide) (fun c345 => ?_) (fun c345 => ?_)
                · replace h := z_ift c345 h
                  refine g_aload_n dX12_readLiteral_96 rfl rfl ?_
                  obtain ⟨q346, e347, h⟩ := z_bd h
                  refine g_callV (a := 137) (as := []) (rest := []) (c := mX12_named) (k1 := 0) dX12_readLiteral_97 rfl rfl rfl sh_137 rfl rfl (Nat.le_of_ble_eq_true rfl) (Nat.le_of_ble_eq_true rfl) (by decide) ?_
                  refine A_X12_named e347 ?_
                  show z_G none 5 mX12_readLiteral 100 [some (.ref 139), some (.int a1), some (.int (z_tb q1.1)), none] [.int q346.1] q346.2 Q
                  refine g_iload_n dX12_readLiteral_100 rfl rfl ?_
                  refine g_if_eq (t := 109) dX12_readLiteral_101 (by decide) (fun c348 => ?_) (fun c348 => ?_)
                  · replace h := z_iff (z_tb0.mp c348) h
                    refine g_iconst (v := (0 : Int32)) dX12_readLiteral_109 (by decide) ?_
                    refine g_iadd dX12_readLiteral_110 ?_
                    refine g_istore_n (ls' := [some (.ref 139), some (.int a1), some (.int (z_tb q1.1)), some (.int (q346.1 + (0 : Int32)))]) dX12_readLiteral_111 rfl (Nat.le_of_ble_eq_true rfl) rfl ?_
                    refine g_aload_n dX12_readLiteral_112 rfl rfl ?_
                    refine g_iconst (v := (1 : Int32)) dX12_readLiteral_113 (by decide) ?_
                    obtain ⟨q349, e350, h⟩ := z_bd h
                    refine g_callV (a := 137) (as := [.int (1 : Int32)]) (rest := []) (c := mX12_must) (k1 := 2) dX12_readLiteral_114 rfl rfl rfl sh_137 rfl rfl (Nat.le_of_ble_eq_true rfl) (Nat.le_of_ble_eq_true rfl) (by decide) ?_
                    refine A_X12_must e350 ?_
                    show z_G none 5 mX12_readLiteral 117 [some (.ref 139), some (.int a1), some (.int (z_tb q1.1)), some (.int (q346.1 + (0 : Int32)))] [] q349.2 Q
                    refine g_iload_n dX12_readLiteral_117 rfl rfl ?_
                    cases h
                    exact g_iret dX12_readLiteral_118 rfl rfl hq
                  · replace h := z_ift (z_tbn.mp c348) h
                    refine g_bipush (v := (6 : Int32)) dX12_readLiteral_104 (by decide) ?_
                    refine g_goto (t := 110) dX12_readLiteral_106 (by decide) ?_
                    refine g_iadd dX12_readLiteral_110 ?_
                    refine g_istore_n (ls' := [some (.ref 139), some (.int a1), some (.int (z_tb q1.1)), some (.int (q346.1 + (6 : Int32)))]) dX12_readLiteral_111 rfl (Nat.le_of_ble_eq_true rfl) rfl ?_
                    refine g_aload_n dX12_readLiteral_112 rfl rfl ?_
                    refine g_iconst (v := (1 : Int32)) dX12_readLiteral_113 (by decide) ?_
                    obtain ⟨q351, e352, h⟩ := z_bd h
                    refine g_callV (a := 137) (as := [.int (1 : Int32)]) (rest := []) (c := mX12_must) (k1 := 2) dX12_readLiteral_114 rfl rfl rfl sh_137 rfl rfl (Nat.le_of_ble_eq_true rfl) (Nat.le_of_ble_eq_true rfl) (by decide) ?_
                    refine A_X12_must e352 ?_
                    show z_G none 5 mX12_readLiteral 117 [some (.ref 139), some (.int a1), some (.int (z_tb q1.1)), some (.int (q346.1 + (6 : Int32)))] [] q351.2 Q
                    refine g_iload_n dX12_readLiteral_117 rfl rfl ?_
                    cases h
                    exact g_iret dX12_readLiteral_118 rfl rfl hq
                · replace h := z_iff c345 h
                  refine g_iconst (v := (0 : Int32)) dX12_readLiteral_92 (by decide) ?_
                  refine g_goto (t := 111) dX12_readLiteral_93 (by decide) ?_
                  refine g_istore_n (ls' := [some (.ref 139), some (.int a1), some (.int (z_tb q1.1)), some (.int (0 : Int32))]) dX12_readLiteral_111 rfl (Nat.le_of_ble_eq_true rfl) rfl ?_
                  refine g_aload_n dX12_readLiteral_112 rfl rfl ?_
                  refine g_iconst (v := (1 : Int32)) dX12_readLiteral_113 (by decide) ?_
                  obtain ⟨q353, e354, h⟩ := z_bd h
                  refine g_callV (a := 137) (as := [.int (1 : Int32)]) (rest := []) (c := mX12_must) (k1 := 2) dX12_readLiteral_114 rfl rfl rfl sh_137 rfl rfl (Nat.le_of_ble_eq_true rfl) (Nat.le_of_ble_eq_true rfl) (by decide) ?_
                  refine A_X12_must e354 ?_
                  show z_G none 5 mX12_readLiteral 117 [some (.ref 139), some (.int a1), some (.int (z_tb q1.1)), some (.int (0 : Int32))] [] q353.2 Q
                  refine g_iload_n dX12_readLiteral_117 rfl rfl ?_
                  cases h
                  exact g_iret dX12_readLiteral_118 rfl rfl hq
              · replace h := z_iff c344 h
                refine g_aload_n dX12_readLiteral_76 rfl rfl ?_
                refine g_iconst (v := (5 : Int32)) dX12_readLiteral_77 (by decide) ?_
                refine g_aload_n dX12_readLiteral_78 rfl rfl ?_
                refine g_get (a := 137) (v := .int (q341.2.1 137 15)) dX12_readLiteral_79 f_12_106 sh_137 rfl rfl ?_
                obtain ⟨q355, e356, h⟩ := z_bd h
                refine g_callV (a := 137) (as := [.int (5 : Int32), .int (q341.2.1 137 15)]) (rest := []) (c := mX12_fail) (k1 := 0) dX12_readLiteral_82 rfl rfl rfl sh_137 rfl rfl (Nat.le_of_ble_eq_true rfl) (Nat.le_of_ble_eq_true rfl) (by decide) ?_
                refine A_X12_fail e356 ?_
                show z_G none 5 mX12_readLiteral 85 [some (.ref 139), some (.int a1), some (.int (z_tb q1.1)), none] [] q355.2 Q
                refine g_aload_n dX12_readLiteral_85 rfl rfl ?_
                refine g_get (a := 137) (v := .int (q355.2.1 137 12)) dX12_readLiteral_86 f_12_212 sh_137 rfl rfl ?_
                refine g_if_le (t := 96) dX12_readLiteral_89 (by decide) (fun c357 => ?_) (fun c357 => ?_)
                · replace h := z_ift c357 h
                  refine g_aload_n dX12_readLiteral_96 rfl rfl ?_
                  obtain ⟨q358, e359, h⟩ := z_bd h
                  refine g_callV (a := 137) (as := []) (rest := []) (c := mX12_named) (k1 := 0) dX12_readLiteral_97 rfl rfl rfl sh_137 rfl rfl (Nat.le_of_ble_eq_true rfl) (Nat.le_of_ble_eq_true rfl) (by decide) ?_
                  refine A_X12_named e359 ?_
                  show z_G none 5 mX12_readLiteral 100 [some (.ref 139), some (.int a1), some (.int (z_tb q1.1)), none] [.int q358.1] q358.2 Q
                  refine g_iload_n dX12_readLiteral_100 rfl rfl ?_
                  refine g_if_eq (t := 109) dX12_readLiteral_101 (by decide) (fun c360 => ?_) (fun c360 => ?_)
                  · replace h := z_iff (z_tb0.mp c360) h
                    refine g_iconst (v := (0 : Int32)) dX12_readLiteral_109 (by decide) ?_
                    refine g_iadd dX12_readLiteral_110 ?_
                    refine g_istore_n (ls' := [some (.ref 139), some (.int a1), some (.int (z_tb q1.1)), some (.int (q358.1 + (0 : Int32)))]) dX12_readLiteral_111 rfl (Nat.le_of_ble_eq_true rfl) rfl ?_
                    refine g_aload_n dX12_readLiteral_112 rfl rfl ?_
                    refine g_iconst (v := (1 : Int32)) dX12_readLiteral_113 (by decide) ?_
                    obtain ⟨q361, e362, h⟩ := z_bd h
                    refine g_callV (a := 137) (as := [.int (1 : Int32)]) (rest := []) (c := mX12_must) (k1 := 2) dX12_readLiteral_114 rfl rfl rfl sh_137 rfl rfl (Nat.le_of_ble_eq_true rfl) (Nat.le_of_ble_eq_true rfl) (by decide) ?_
                    refine A_X12_must e362 ?_
                    show z_G none 5 mX12_readLiteral 117 [some (.ref 139), some (.int a1), some (.int (z_tb q1.1)), some (.int (q358.1 + (0 : Int32)))] [] q361.2 Q
                    refine g_iload_n dX12_readLiteral_117 rfl rfl ?_
                    cases h
                    exact g_iret dX12_readLiteral_118 rfl rfl hq
                  · replace h := z_ift (z_tbn.mp c360) h
                    refine g_bipush (v := (6 : Int32)) dX12_readLiteral_104 (by decide) ?_
                    refine g_goto (t := 110) dX12_readLiteral_106 (by decide) ?_
                    refine g_iadd dX12_readLiteral_110 ?_
                    refine g_istore_n (ls' := [some (.ref 139), some (.int a1), some (.int (z_tb q1.1)), some (.int (q358.1 + (6 : Int32)))]) dX12_readLiteral_111 rfl (Nat.le_of_ble_eq_true rfl) rfl ?_
                    refine g_aload_n dX12_readLiteral_112 rfl rfl ?_
                    refine g_iconst (v := (1 : Int32)) dX12_readLiteral_113 (by decide) ?_
                    obtain ⟨q363, e364, h⟩ := z_bd h
                    refine g_callV (a := 137) (as := [.int (1 : Int32)]) (rest := []) (c := mX12_must) (k1 := 2) dX12_readLiteral_114 rfl rfl rfl sh_137 rfl rfl (Nat.le_of_ble_eq_true rfl) (Nat.le_of_ble_eq_true rfl) (by decide) ?_
                    refine A_X12_must e364 ?_
                    show z_G none 5 mX12_readLiteral 117 [some (.ref 139), some (.int a1), some (.int (z_tb q1.1)), some (.int (q358.1 + (6 : Int32)))] [] q363.2 Q
                    refine g_iload_n dX12_readLiteral_117 rfl rfl ?_
                    cases h
                    exact g_iret dX12_readLiteral_118 rfl rfl hq
                · replace h := z_iff c357 h
                  refine g_iconst (v := (0 : Int32)) dX12_readLiteral_92 (by decide) ?_
                  refine g_goto (t := 111) dX12_readLiteral_93 (by decide) ?_
                  refine g_istore_n (ls' := [some (.ref 139), some (.int a1), some (.int (z_tb q1.1)), some (.int (0 : Int32))]) dX12_readLiteral_111 rfl (Nat.le_of_ble_eq_true rfl) rfl ?_
                  refine g_aload_n dX12_readLiteral_112 rfl rfl ?_
                  refine g_iconst (v := (1 : Int32)) dX12_readLiteral_113 (by decide) ?_
                  obtain ⟨q365, e366, h⟩ := z_bd h
                  refine g_callV (a := 137) (as := [.int (1 : Int32)]) (rest := []) (c := mX12_must) (k1 := 2) dX12_readLiteral_114 rfl rfl rfl sh_137 rfl rfl (Nat.le_of_ble_eq_true rfl) (Nat.le_of_ble_eq_true rfl) (by decide) ?_
                  refine A_X12_must e366 ?_
                  show z_G none 5 mX12_readLiteral 117 [some (.ref 139), some (.int a1), some (.int (z_tb q1.1)), some (.int (0 : Int32))] [] q365.2 Q
                  refine g_iload_n dX12_readLiteral_117 rfl rfl ?_
                  cases h
                  exact g_iret dX12_readLiteral_118 rfl rfl hq
            · replace h := z_iff c343 h
              refine g_aload_n dX12_readLiteral_63 rfl rfl ?_
              refine g_iconst (v := (3 : Int32)) dX12_readLiteral_64 (by decide) ?_
              refine g_aload_n dX12_readLiteral_65 rfl rfl ?_
              refine g_get (a := 137) (v := .int (q341.2.1 137 15)) dX12_readLiteral_66 f_12_106 sh_137 rfl rfl ?_
              obtain ⟨q367, e368, h⟩ := z_bd h
              refine g_callV (a := 137) (as := [.int (3 : Int32), .int (q341.2.1 137 15)]) (rest := []) (c := mX12_fail) (k1 := 0) dX12_readLiteral_69 rfl rfl rfl sh_137 rfl rfl (Nat.le_of_ble_eq_true rfl) (Nat.le_of_ble_eq_true rfl) (by decide) ?_
              refine A_X12_fail e368 ?_
              show z_G none 5 mX12_readLiteral 72 [some (.ref 139), some (.int a1), some (.int (z_tb q1.1)), none] [] q367.2 Q
              refine g_iload_n dX12_readLiteral_72 rfl rfl ?_
              refine g_if_eq (t := 85) dX12_readLiteral_73 (by decide) (fun c369 => ?_) (fun c369 => ?_)
              · replace h := z_ift c369 h
                refine g_aload_n dX12_readLiteral_85 rfl rfl ?_
                refine g_get (a := 137) (v := .int (q367.2.1 137 12)) dX12_readLiteral_86 f_12_212 sh_137 rfl rfl ?_
                refine g_if_le (t := 96) dX12_readLiteral_89 (by decide) (fun c370 => ?_) (fun c370 => ?_)
                · replace h := z_ift c370 h
                  refine g_aload_n dX12_readLiteral_96 rfl rfl ?_
                  obtain ⟨q371, e372, h⟩ := z_bd h
                  refine g_callV (a := 137) (as := []) (rest := []) (c := mX12_named) (k1 := 0) dX12_readLiteral_97 rfl rfl rfl sh_137 rfl rfl (Nat.le_of_ble_eq_true rfl) (Nat.le_of_ble_eq_true rfl) (by decide) ?_
                  refine A_X12_named e372 ?_
                  show z_G none 5 mX12_readLiteral 100 [some (.ref 139), some (.int a1), some (.int (z_tb q1.1)), none] [.int q371.1] q371.2 Q
                  refine g_iload_n dX12_readLiteral_100 rfl rfl ?_
                  refine g_if_eq (t := 109) dX12_readLiteral_101 (by decide) (fun c373 => ?_) (fun c373 => ?_)
                  · replace h := z_iff (z_tb0.mp c373) h
                    refine g_iconst (v := (0 : Int32)) dX12_readLiteral_109 (by decide) ?_
                    refine g_iadd dX12_readLiteral_110 ?_
                    refine g_istore_n (ls' := [some (.ref 139), some (.int a1), some (.int (z_tb q1.1)), some (.int (q371.1 + (0 : Int32)))]) dX12_readLiteral_111 rfl (Nat.le_of_ble_eq_true rfl) rfl ?_
                    refine g_aload_n dX12_readLiteral_112 rfl rfl ?_
                    refine g_iconst (v := (1 : Int32)) dX12_readLiteral_113 (by decide) ?_
                    obtain ⟨q374, e375, h⟩ := z_bd h
                    refine g_callV (a := 137) (as := [.int (1 : Int32)]) (rest := []) (c := mX12_must) (k1 := 2) dX12_readLiteral_114 rfl rfl rfl sh_137 rfl rfl (Nat.le_of_ble_eq_true rfl) (Nat.le_of_ble_eq_true rfl) (by decide) ?_
                    refine A_X12_must e375 ?_
                    show z_G none 5 mX12_readLiteral 117 [some (.ref 139), some (.int a1), some (.int (z_tb q1.1)), some (.int (q371.1 + (0 : Int32)))] [] q374.2 Q
                    refine g_iload_n dX12_readLiteral_117 rfl rfl ?_
                    cases h
                    exact g_iret dX12_readLiteral_118 rfl rfl hq
                  · replace h := z_ift (z_tbn.mp c373) h
                    refine g_bipush (v := (6 : Int32)) dX12_readLiteral_104 (by decide) ?_
                    refine g_goto (t := 110) dX12_readLiteral_106 (by decide) ?_
                    refine g_iadd dX12_readLiteral_110 ?_
                    refine g_istore_n (ls' := [some (.ref 139), some (.int a1), some (.int (z_tb q1.1)), some (.int (q371.1 + (6 : Int32)))]) dX12_readLiteral_111 rfl (Nat.le_of_ble_eq_true rfl) rfl ?_
                    refine g_aload_n dX12_readLiteral_112 rfl rfl ?_
                    refine g_iconst (v := (1 : Int32)) dX12_readLiteral_113 (by decide) ?_
                    obtain ⟨q376, e377, h⟩ := z_bd h
                    refine g_callV (a := 137) (as := [.int (1 : Int32)]) (rest := []) (c := mX12_must) (k1 := 2) dX12_readLiteral_114 rfl rfl rfl sh_137 rfl rfl (Nat.le_of_ble_eq_true rfl) (Nat.le_of_ble_eq_true rfl) (by decide) ?_
                    refine A_X12_must e377 ?_
                    show z_G none 5 mX12_readLiteral 117 [some (.ref 139), some (.int a1), some (.int (z_tb q1.1)), some (.int (q371.1 + (6 : Int32)))] [] q376.2 Q
                    refine g_iload_n dX12_readLiteral_117 rfl rfl ?_
                    cases h
                    exact g_iret dX12_readLiteral_118 rfl rfl hq
                · replace h := z_iff c370 h
                  refine g_iconst (v := (0 : Int32)) dX12_readLiteral_92 (by decide) ?_
                  refine g_goto (t := 111) dX12_readLiteral_93 (by decide) ?_
                  refine g_istore_n (ls' := [some (.ref 139), some (.int a1), some (.int (z_tb q1.1)), some (.int (0 : Int32))]) dX12_readLiteral_111 rfl (Nat.le_of_ble_eq_true rfl) rfl ?_
                  refine g_aload_n dX12_readLiteral_112 rfl rfl ?_
                  refine g_iconst (v := (1 : Int32)) dX12_readLiteral_113 (by decide) ?_
                  obtain ⟨q378, e379, h⟩ := z_bd h
                  refine g_callV (a := 137) (as := [.int (1 : Int32)]) (rest := []) (c := mX12_must) (k1 := 2) dX12_readLiteral_114 rfl rfl rfl sh_137 rfl rfl (Nat.le_of_ble_eq_true rfl) (Nat.le_of_ble_eq_true rfl) (by decide) ?_
                  refine A_X12_must e379 ?_
                  show z_G none 5 mX12_readLiteral 117 [some (.ref 139), some (.int a1), some (.int (z_tb q1.1)), some (.int (0 : Int32))] [] q378.2 Q
                  refine g_iload_n dX12_readLiteral_117 rfl rfl ?_
                  cases h
                  exact g_iret dX12_readLiteral_118 rfl rfl hq
              · replace h := z_iff c369 h
                refine g_aload_n dX12_readLiteral_76 rfl rfl ?_
                refine g_iconst (v := (5 : Int32)) dX12_readLiteral_77 (by decide) ?_
                refine g_aload_n dX12_readLiteral_78 rfl rfl ?_
                refine g_get (a := 137) (v := .int (q367.2.1 137 15)) dX12_readLiteral_79 f_12_106 sh_137 rfl rfl ?_
                obtain ⟨q380, e381, h⟩ := z_bd h
                refine g_callV (a := 137) (as := [.int (5 : Int32), .int (q367.2.1 137 15)]) (rest := []) (c := mX12_fail) (k1 := 0) dX12_readLiteral_82 rfl rfl rfl sh_137 rfl rfl (Nat.le_of_ble_eq_true rfl) (Nat.le_of_ble_eq_true rfl) (by decide) ?_
                refine A_X12_fail e381 ?_
                show z_G none 5 mX12_readLiteral 85 [some (.ref 139), some (.int a1), some (.int (z_tb q1.1)), none] [] q380.2 Q
                refine g_aload_n dX12_readLiteral_85 rfl rfl ?_
                refine g_get (a := 137) (v := .int (q380.2.1 137 12)) dX12_readLiteral_86 f_12_212 sh_137 rfl rfl ?_
                refine g_if_le (t := 96) dX12_readLiteral_89 (by decide) (fun c382 => ?_) (fun c382 => ?_)
                · replace h := z_ift c382 h
                  refine g_aload_n dX12_readLiteral_96 rfl rfl ?_
                  obtain ⟨q383, e384, h⟩ := z_bd h
                  refine g_callV (a := 137) (as := []) (rest := []) (c := mX12_named) (k1 := 0) dX12_readLiteral_97 rfl rfl rfl sh_137 rfl rfl (Nat.le_of_ble_eq_true rfl) (Nat.le_of_ble_eq_true rfl) (by decide) ?_
                  refine A_X12_named e384 ?_
                  show z_G none 5 mX12_readLiteral 100 [some (.ref 139), some (.int a1), some (.int (z_tb q1.1)), none] [.int q383.1] q383.2 Q
                  refine g_iload_n dX12_readLiteral_100 rfl rfl ?_
                  refine g_if_eq (t := 109) dX12_readLiteral_101 (by decide) (fun c385 => ?_) (fun c385 => ?_)
                  · replace h := z_iff (z_tb0.mp c385) h
                    refine g_iconst (v := (0 : Int32)) dX12_readLiteral_109 (by decide) ?_
                    refine g_iadd dX12_readLiteral_110 ?_
                    refine g_istore_n (ls' := [some (.ref 139), some (.int a1), some (.int (z_tb q1.1)), some (.int (q383.1 + (0 : Int32)))]) dX12_readLiteral_111 rfl (Nat.le_of_ble_eq_true rfl) rfl ?_
                    refine g_aload_n dX12_readLiteral_112 rfl rfl ?_
                    refine g_iconst (v := (1 : Int32)) dX12_readLiteral_113 (by decide) ?_
                    obtain ⟨q386, e387, h⟩ := z_bd h
                    refine g_callV (a := 137) (as := [.int (1 : Int32)]) (rest := []) (c := mX12_must) (k1 := 2) dX12_readLiteral_114 rfl rfl rfl sh_137 rfl rfl (Nat.le_of_ble_eq_true rfl) (Nat.le_of_ble_eq_true rfl) (by decide) ?_
                    refine A_X12_must e387 ?_
                    show z_G none 5 mX12_readLiteral 117 [some (.ref 139), some (.int a1), some (.int (z_tb q1.1)), some (.int (q383.1 + (0 : Int32)))] [] q386.2 Q
                    refine g_iload_n dX12_readLiteral_117 rfl rfl ?_
                    cases h
                    exact g_iret dX12_readLiteral_118 rfl rfl hq
                  · replace h := z_ift (z_tbn.mp c385) h
                    refine g_bipush (v := (6 : Int32)) dX12_readLiteral_104 (by decide) ?_
                    refine g_goto (t := 110) dX12_readLiteral_106 (by decide) ?_
                    refine g_iadd dX12_readLiteral_110 ?_
                    refine g_istore_n (ls' := [some (.ref 139), some (.int a1), some (.int (z_tb q1.1)), some (.int (q383.1 + (6 : Int32)))]) dX12_readLiteral_111 rfl (Nat.le_of_ble_eq_true rfl) rfl ?_
                    refine g_aload_n dX12_readLiteral_112 rfl rfl ?_
                    refine g_iconst (v := (1 : Int32)) dX12_readLiteral_113 (by decide) ?_
                    obtain ⟨q388, e389, h⟩ := z_bd h
                    refine g_callV (a := 137) (as := [.int (1 : Int32)]) (rest := []) (c := mX12_must) (k1 := 2) dX12_readLiteral_114 rfl rfl rfl sh_137 rfl rfl (Nat.le_of_ble_eq_true rfl) (Nat.le_of_ble_eq_true rfl) (by decide) ?_
                    refine A_X12_must e389 ?_
                    show z_G none 5 mX12_readLiteral 117 [some (.ref 139), some (.int a1), some (.int (z_tb q1.1)), some (.int (q383.1 + (6 : Int32)))] [] q388.2 Q
                    refine g_iload_n dX12_readLiteral_117 rfl rfl ?_
                    cases h
                    exact g_iret dX12_readLiteral_118 rfl rfl hq
                · replace h := z_iff c382 h
                  refine g_iconst (v := (0 : Int32)) dX12_readLiteral_92 (by decide) ?_
                  refine g_goto (t := 111) dX12_readLiteral_93 (by decide) ?_
                  refine g_istore_n (ls' := [some (.ref 139), some (.int a1), some (.int (z_tb q1.1)), some (.int (0 : Int32))]) dX12_readLiteral_111 rfl (Nat.le_of_ble_eq_true rfl) rfl ?_
                  refine g_aload_n dX12_readLiteral_112 rfl rfl ?_
                  refine g_iconst (v := (1 : Int32)) dX12_readLiteral_113 (by decide) ?_
                  obtain ⟨q390, e391, h⟩ := z_bd h
                  refine g_callV (a := 137) (as := [.int (1 : Int32)]) (rest := []) (c := mX12_must) (k1 := 2) dX12_readLiteral_114 rfl rfl rfl sh_137 rfl rfl (Nat.le_of_ble_eq_true rfl) (Nat.le_of_ble_eq_true rfl) (by decide) ?_
                  refine A_X12_must e391 ?_
                  show z_G none 5 mX12_readLiteral 117 [some (.ref 139), some (.int a1), some (.int (z_tb q1.1)), some (.int (0 : Int32))] [] q390.2 Q
                  refine g_iload_n dX12_readLiteral_117 rfl rfl ?_
                  cases h
                  exact g_iret dX12_readLiteral_118 rfl rfl hq
        · replace h := z_iff (z_tb0.mp c316) h
          refine g_aload_n dX12_readLiteral_45 rfl rfl ?_
          obtain ⟨q392, e393, h⟩ := z_bd h
          refine g_callV (a := 137) (as := []) (rest := []) (c := mX12_amiss) (k1 := 1) dX12_readLiteral_46 rfl rfl rfl sh_137 rfl rfl (Nat.le_of_ble_eq_true rfl) (Nat.le_of_ble_eq_true rfl) (by decide) ?_
          refine A_X12_amiss e393 ?_
          show z_G none 5 mX12_readLiteral 49 [some (.ref 139), some (.int a1), some (.int (z_tb q1.1)), none] [] q392.2 Q
          refine g_aload_n dX12_readLiteral_49 rfl rfl ?_
          refine g_get (a := 137) (v := .int (q392.2.1 137 12)) dX12_readLiteral_50 f_12_212 sh_137 rfl rfl ?_
          refine g_if_ne (t := 72) dX12_readLiteral_53 (by decide) (fun c394 => ?_) (fun c394 => ?_)
          · replace h := z_iff c394 h
            refine g_iload_n dX12_readLiteral_72 rfl rfl ?_
            refine g_if_eq (t := 85) dX12_readLiteral_73 (by decide) (fun c395 => ?_) (fun c395 => ?_)
            · replace h := z_ift c395 h
              refine g_aload_n dX12_readLiteral_85 rfl rfl ?_
              refine g_get (a := 137) (v := .int (q392.2.1 137 12)) dX12_readLiteral_86 f_12_212 sh_137 rfl rfl ?_
              refine g_if_le (t := 96) dX12_readLiteral_89 (by decide) (fun c396 => ?_) (fun c396 => ?_)
              · replace h := z_ift c396 h
                refine g_aload_n dX12_readLiteral_96 rfl rfl ?_
                obtain ⟨q397, e398, h⟩ := z_bd h
                refine g_callV (a := 137) (as := []) (rest := []) (c := mX12_named) (k1 := 0) dX12_readLiteral_97 rfl rfl rfl sh_137 rfl rfl (Nat.le_of_ble_eq_true rfl) (Nat.le_of_ble_eq_true rfl) (by decide) ?_
                refine A_X12_named e398 ?_
                show z_G none 5 mX12_readLiteral 100 [some (.ref 139), some (.int a1), some (.int (z_tb q1.1)), none] [.int q397.1] q397.2 Q
                refine g_iload_n dX12_readLiteral_100 rfl rfl ?_
                refine g_if_eq (t := 109) dX12_readLiteral_101 (by decide) (fun c399 => ?_) (fun c399 => ?_)
                · replace h := z_iff (z_tb0.mp c399) h
                  refine g_iconst (v := (0 : Int32)) dX12_readLiteral_109 (by decide) ?_
                  refine g_iadd dX12_readLiteral_110 ?_
                  refine g_istore_n (ls' := [some (.ref 139), some (.int a1), some (.int (z_tb q1.1)), some (.int (q397.1 + (0 : Int32)))]) dX12_readLiteral_111 rfl (Nat.le_of_ble_eq_true rfl) rfl ?_
                  refine g_aload_n dX12_readLiteral_112 rfl rfl ?_
                  refine g_iconst (v := (1 : Int32)) dX12_readLiteral_113 (by decide) ?_
                  obtain ⟨q400, e401, h⟩ := z_bd h
                  refine g_callV (a := 137) (as := [.int (1 : Int32)]) (rest := []) (c := mX12_must) (k1 := 2) dX12_readLiteral_114 rfl rfl rfl sh_137 rfl rfl (Nat.le_of_ble_eq_true rfl) (Nat.le_of_ble_eq_true rfl) (by decide) ?_
                  refine A_X12_must e401 ?_
                  show z_G none 5 mX12_readLiteral 117 [some (.ref 139), some (.int a1), some (.int (z_tb q1.1)), some (.int (q397.1 + (0 : Int32)))] [] q400.2 Q
                  refine g_iload_n dX12_readLiteral_117 rfl rfl ?_
                  cases h
                  exact g_iret dX12_readLiteral_118 rfl rfl hq
                · replace h := z_ift (z_tbn.mp c399) h
                  refine g_bipush (v := (6 : Int32)) dX12_readLiteral_104 (by decide) ?_
                  refine g_goto (t := 110) dX12_readLiteral_106 (by decide) ?_
                  refine g_iadd dX12_readLiteral_110 ?_
                  refine g_istore_n (ls' := [some (.ref 139), some (.int a1), some (.int (z_tb q1.1)), some (.int (q397.1 + (6 : Int32)))]) dX12_readLiteral_111 rfl (Nat.le_of_ble_eq_true rfl) rfl ?_
                  refine g_aload_n dX12_readLiteral_112 rfl rfl ?_
                  refine g_iconst (v := (1 : Int32)) dX12_readLiteral_113 (by decide) ?_
                  obtain ⟨q402, e403, h⟩ := z_bd h
                  refine g_callV (a := 137) (as := [.int (1 : Int32)]) (rest := []) (c := mX12_must) (k1 := 2) dX12_readLiteral_114 rfl rfl rfl sh_137 rfl rfl (Nat.le_of_ble_eq_true rfl) (Nat.le_of_ble_eq_true rfl) (by decide) ?_
                  refine A_X12_must e403 ?_
                  show z_G none 5 mX12_readLiteral 117 [some (.ref 139), some (.int a1), some (.int (z_tb q1.1)), some (.int (q397.1 + (6 : Int32)))] [] q402.2 Q
                  refine g_iload_n dX12_readLiteral_117 rfl rfl ?_
                  cases h
                  exact g_iret dX12_readLiteral_118 rfl rfl hq
              · replace h := z_iff c396 h
                refine g_iconst (v := (0 : Int32)) dX12_readLiteral_92 (by decide) ?_
                refine g_goto (t := 111) dX12_readLiteral_93 (by decide) ?_
                refine g_istore_n (ls' := [some (.ref 139), some (.int a1), some (.int (z_tb q1.1)), some (.int (0 : Int32))]) dX12_readLiteral_111 rfl (Nat.le_of_ble_eq_true rfl) rfl ?_
                refine g_aload_n dX12_readLiteral_112 rfl rfl ?_
                refine g_iconst (v := (1 : Int32)) dX12_readLiteral_113 (by decide) ?_
                obtain ⟨q404, e405, h⟩ := z_bd h
                refine g_callV (a := 137) (as := [.int (1 : Int32)]) (rest := []) (c := mX12_must) (k1 := 2) dX12_readLiteral_114 rfl rfl rfl sh_137 rfl rfl (Nat.le_of_ble_eq_true rfl) (Nat.le_of_ble_eq_true rfl) (by decide) ?_
                refine A_X12_must e405 ?_
                show z_G none 5 mX12_readLiteral 117 [some (.ref 139), some (.int a1), some (.int (z_tb q1.1)), some (.int (0 : Int32))] [] q404.2 Q
                refine g_iload_n dX12_readLiteral_117 rfl rfl ?_
                cases h
                exact g_iret dX12_readLiteral_118 rfl rfl hq
            · replace h := z_iff c395 h
              refine g_aload_n dX12_readLiteral_76 rfl rfl ?_
              refine g_iconst (v := (5 : Int32)) dX12_readLiteral_77 (by decide) ?_
              refine g_aload_n dX12_readLiteral_78 rfl rfl ?_
              refine g_get (a := 137) (v := .int (q392.2.1 137 15)) dX12_readLiteral_79 f_12_106 sh_137 rfl rfl ?_
              obtain ⟨q406, e407, h⟩ := z_bd h
              refine g_callV (a := 137) (as := [.int (5 : Int32), .int (q392.2.1 137 15)]) (rest := []) (c := mX12_fail) (k1 := 0) dX12_readLiteral_82 rfl rfl rfl sh_137 rfl rfl (Nat.le_of_ble_eq_true rfl) (Nat.le_of_ble_eq_true rfl) (by decide) ?_
              refine A_X12_fail e407 ?_
              show z_G none 5 mX12_readLiteral 85 [some (.ref 139), some (.int a1), some (.int (z_tb q1.1)), none] [] q406.2 Q
              refine g_aload_n dX12_readLiteral_85 rfl rfl ?_
              refine g_get (a := 137) (v := .int (q406.2.1 137 12)) dX12_readLiteral_86 f_12_212 sh_137 rfl rfl ?_
              refine g_if_le (t := 96) dX12_readLiteral_89 (by decide) (fun c408 => ?_) (fun c408 => ?_)
              · replace h := z_ift c408 h
                refine g_aload_n dX12_readLiteral_96 rfl rfl ?_
                obtain ⟨q409, e410, h⟩ := z_bd h
                refine g_callV (a := 137) (as := []) (rest := []) (c := mX12_named) (k1 := 0) dX12_readLiteral_97 rfl rfl rfl sh_137 rfl rfl (Nat.le_of_ble_eq_true rfl) (Nat.le_of_ble_eq_true rfl) (by decide) ?_
                refine A_X12_named e410 ?_
                show z_G none 5 mX12_readLiteral 100 [some (.ref 139), some (.int a1), some (.int (z_tb q1.1)), none] [.int q409.1] q409.2 Q
                refine g_iload_n dX12_readLiteral_100 rfl rfl ?_
                refine g_if_eq (t := 109) dX12_readLiteral_101 (by decide) (fun c411 => ?_) (fun c411 => ?_)
                · replace h := z_iff (z_tb0.mp c411) h
                  refine g_iconst (v := (0 : Int32)) dX12_readLiteral_109 (by decide) ?_
                  refine g_iadd dX12_readLiteral_110 ?_
                  refine g_istore_n (ls' := [some (.ref 139), some (.int a1), some (.int (z_tb q1.1)), some (.int (q409.1 + (0 : Int32)))]) dX12_readLiteral_111 rfl (Nat.le_of_ble_eq_true rfl) rfl ?_
                  refine g_aload_n dX12_readLiteral_112 rfl rfl ?_
                  refine g_iconst (v := (1 : Int32)) dX12_readLiteral_113 (by decide) ?_
                  obtain ⟨q412, e413, h⟩ := z_bd h
                  refine g_callV (a := 137) (as := [.int (1 : Int32)]) (rest := []) (c := mX12_must) (k1 := 2) dX12_readLiteral_114 rfl rfl rfl sh_137 rfl rfl (Nat.le_of_ble_eq_true rfl) (Nat.le_of_ble_eq_true rfl) (by decide) ?_
                  refine A_X12_must e413 ?_
                  show z_G none 5 mX12_readLiteral 117 [some (.ref 139), some (.int a1), some (.int (z_tb q1.1)), some (.int (q409.1 + (0 : Int32)))] [] q412.2 Q
                  refine g_iload_n dX12_readLiteral_117 rfl rfl ?_
                  cases h
                  exact g_iret dX12_readLiteral_118 rfl rfl hq
                · replace h := z_ift (z_tbn.mp c411) h
                  refine g_bipush (v := (6 : Int32)) dX12_readLiteral_104 (by decide) ?_
                  refine g_goto (t := 110) dX12_readLiteral_106 (by decide) ?_
                  refine g_iadd dX12_readLiteral_110 ?_
                  refine g_istore_n (ls' := [some (.ref 139), some (.int a1), some (.int (z_tb q1.1)), some (.int (q409.1 + (6 : Int32)))]) dX12_readLiteral_111 rfl (Nat.le_of_ble_eq_true rfl) rfl ?_
                  refine g_aload_n dX12_readLiteral_112 rfl rfl ?_
                  refine g_iconst (v := (1 : Int32)) dX12_readLiteral_113 (by decide) ?_
                  obtain ⟨q414, e415, h⟩ := z_bd h
                  refine g_callV (a := 137) (as := [.int (1 : Int32)]) (rest := []) (c := mX12_must) (k1 := 2) dX12_readLiteral_114 rfl rfl rfl sh_137 rfl rfl (Nat.le_of_ble_eq_true rfl) (Nat.le_of_ble_eq_true rfl) (by decide) ?_
                  refine A_X12_must e415 ?_
                  show z_G none 5 mX12_readLiteral 117 [some (.ref 139), some (.int a1), some (.int (z_tb q1.1)), some (.int (q409.1 + (6 : Int32)))] [] q414.2 Q
                  refine g_iload_n dX12_readLiteral_117 rfl rfl ?_
                  cases h
                  exact g_iret dX12_readLiteral_118 rfl rfl hq
              · replace h := z_iff c408 h
                refine g_iconst (v := (0 : Int32)) dX12_readLiteral_92 (by decide) ?_
                refine g_goto (t := 111) dX12_readLiteral_93 (by decide) ?_
                refine g_istore_n (ls' := [some (.ref 139), some (.int a1), some (.int (z_tb q1.1)), some (.int (0 : Int32))]) dX12_readLiteral_111 rfl (Nat.le_of_ble_eq_true rfl) rfl ?_
                refine g_aload_n dX12_readLiteral_112 rfl rfl ?_
                refine g_iconst (v := (1 : Int32)) dX12_readLiteral_113 (by decide) ?_
                obtain ⟨q416, e417, h⟩ := z_bd h
                refine g_callV (a := 137) (as := [.int (1 : Int32)]) (rest := []) (c := mX12_must) (k1 := 2) dX12_readLiteral_114 rfl rfl rfl sh_137 rfl rfl (Nat.le_of_ble_eq_true rfl) (Nat.le_of_ble_eq_true rfl) (by decide) ?_
                refine A_X12_must e417 ?_
                show z_G none 5 mX12_readLiteral 117 [some (.ref 139), some (.int a1), some (.int (z_tb q1.1)), some (.int (0 : Int32))] [] q416.2 Q
                refine g_iload_n dX12_readLiteral_117 rfl rfl ?_
                cases h
                exact g_iret dX12_readLiteral_118 rfl rfl hq
          · replace h := z_ift c394 h
            refine g_aload_n dX12_readLiteral_56 rfl rfl ?_
            obtain ⟨q418, e419, h⟩ := z_bd h
            refine g_callV (a := 137) (as := []) (rest := []) (c := mX12_named) (k1 := 0) dX12_readLiteral_57 rfl rfl rfl sh_137 rfl rfl (Nat.le_of_ble_eq_true rfl) (Nat.le_of_ble_eq_true rfl) (by decide) ?_
            refine A_X12_named e419 ?_
            show z_G none 5 mX12_readLiteral 60 [some (.ref 139), some (.int a1), some (.int (z_tb q1.1)), none] [.int q418.1] q418.2 Q
            refine g_if_ge (t := 72) dX12_readLiteral_60 (by decide) (fun c420 => ?_) (fun c420 => ?_)
            · replace h := z_ift c420 h
              refine g_iload_n dX12_readLiteral_72 rfl rfl ?_
              refine g_if_eq (t := 85) dX12_readLiteral_73 (by decide) (fun c421 => ?_) (fun c421 => ?_)
              · replace h := z_ift c421 h
                refine g_aload_n dX12_readLiteral_85 rfl rfl ?_
                refine g_get (a := 137) (v := .int (q418.2.1 137 12)) dX12_readLiteral_86 f_12_212 sh_137 rfl rfl ?_
                refine g_if_le (t := 96) dX12_readLiteral_89 (by decide) (fun c422 => ?_) (fun c422 => ?_)
                · replace h := z_ift c422 h
                  refine g_aload_n dX12_readLiteral_96 rfl rfl ?_
                  obtain ⟨q423, e424, h⟩ := z_bd h
                  refine g_callV (a := 137) (as := []) (rest := []) (c := mX12_named) (k1 := 0) dX12_readLiteral_97 rfl rfl rfl sh_137 rfl rfl (Nat.le_of_ble_eq_true rfl) (Nat.le_of_ble_eq_true rfl) (by decide) ?_
                  refine A_X12_named e424 ?_
                  show z_G none 5 mX12_readLiteral 100 [some (.ref 139), some (.int a1), some (.int (z_tb q1.1)), none] [.int q423.1] q423.2 Q
                  refine g_iload_n dX12_readLiteral_100 rfl rfl ?_
                  refine g_if_eq (t := 109) dX12_readLiteral_101 (by decide) (fun c425 => ?_) (fun c425 => ?_)
                  · replace h := z_iff (z_tb0.mp c425) h
                    refine g_iconst (v := (0 : Int32)) dX12_readLiteral_109 (by decide) ?_
                    refine g_iadd dX12_readLiteral_110 ?_
                    refine g_istore_n (ls' := [some (.ref 139), some (.int a1), some (.int (z_tb q1.1)), some (.int (q423.1 + (0 : Int32)))]) dX12_readLiteral_111 rfl (Nat.le_of_ble_eq_true rfl) rfl ?_
                    refine g_aload_n dX12_readLiteral_112 rfl rfl ?_
                    refine g_iconst (v := (1 : Int32)) dX12_readLiteral_113 (by decide) ?_
                    obtain ⟨q426, e427, h⟩ := z_bd h
                    refine g_callV (a := 137) (as := [.int (1 : Int32)]) (rest := []) (c := mX12_must) (k1 := 2) dX12_readLiteral_114 rfl rfl rfl sh_137 rfl rfl (Nat.le_of_ble_eq_true rfl) (Nat.le_of_ble_eq_true rfl) (by decide) ?_
                    refine A_X12_must e427 ?_
                    show z_G none 5 mX12_readLiteral 117 [some (.ref 139), some (.int a1), some (.int (z_tb q1.1)), some (.int (q423.1 + (0 : Int32)))] [] q426.2 Q
                    refine g_iload_n dX12_readLiteral_117 rfl rfl ?_
                    cases h
                    exact g_iret dX12_readLiteral_118 rfl rfl hq
                  · replace h := z_ift (z_tbn.mp c425) h
                    refine g_bipush (v := (6 : Int32)) dX12_readLiteral_104 (by decide) ?_
                    refine g_goto (t := 110) dX12_readLiteral_106 (by decide) ?_
                    refine g_iadd dX12_readLiteral_110 ?_
                    refine g_istore_n (ls' := [some (.ref 139), some (.int a1), some (.int (z_tb q1.1)), some (.int (q423.1 + (6 : Int32)))]) dX12_readLiteral_111 rfl (Nat.le_of_ble_eq_true rfl) rfl ?_
                    refine g_aload_n dX12_readLiteral_112 rfl rfl ?_
                    refine g_iconst (v := (1 : Int32)) dX12_readLiteral_113 (by decide) ?_
                    obtain ⟨q428, e429, h⟩ := z_bd h
                    refine g_callV (a := 137) (as := [.int (1 : Int32)]) (rest := []) (c := mX12_must) (k1 := 2) dX12_readLiteral_114 rfl rfl rfl sh_137 rfl rfl (Nat.le_of_ble_eq_true rfl) (Nat.le_of_ble_eq_true rfl) (by decide) ?_
                    refine A_X12_must e429 ?_
                    show z_G none 5 mX12_readLiteral 117 [some (.ref 139), some (.int a1), some (.int (z_tb q1.1)), some (.int (q423.1 + (6 : Int32)))] [] q428.2 Q
                    refine g_iload_n dX12_readLiteral_117 rfl rfl ?_
                    cases h
                    exact g_iret dX12_readLiteral_118 rfl rfl hq
                · replace h := z_iff c422 h
                  refine g_iconst (v := (0 : Int32)) dX12_readLiteral_92 (by decide) ?_
                  refine g_goto (t := 111) dX12_readLiteral_93 (by decide) ?_
                  refine g_istore_n (ls' := [some (.ref 139), some (.int a1), some (.int (z_tb q1.1)), some (.int (0 : Int32))]) dX12_readLiteral_111 rfl (Nat.le_of_ble_eq_true rfl) rfl ?_
                  refine g_aload_n dX12_readLiteral_112 rfl rfl ?_
                  refine g_iconst (v := (1 : Int32)) dX12_readLiteral_113 (by decide) ?_
                  obtain ⟨q430, e431, h⟩ := z_bd h
                  refine g_callV (a := 137) (as := [.int (1 : Int32)]) (rest := []) (c := mX12_must) (k1 := 2) dX12_readLiteral_114 rfl rfl rfl sh_137 rfl rfl (Nat.le_of_ble_eq_true rfl) (Nat.le_of_ble_eq_true rfl) (by decide) ?_
                  refine A_X12_must e431 ?_
                  show z_G none 5 mX12_readLiteral 117 [some (.ref 139), some (.int a1), some (.int (z_tb q1.1)), some (.int (0 : Int32))] [] q430.2 Q
                  refine g_iload_n dX12_readLiteral_117 rfl rfl ?_
                  cases h
                  exact g_iret dX12_readLiteral_118 rfl rfl hq
              · replace h := z_iff c421 h
                refine g_aload_n dX12_readLiteral_76 rfl rfl ?_
                refine g_iconst (v := (5 : Int32)) dX12_readLiteral_77 (by decide) ?_
                refine g_aload_n dX12_readLiteral_78 rfl rfl ?_
                refine g_get (a := 137) (v := .int (q418.2.1 137 15)) dX12_readLiteral_79 f_12_106 sh_137 rfl rfl ?_
                obtain ⟨q432, e433, h⟩ := z_bd h
                refine g_callV (a := 137) (as := [.int (5 : Int32), .int (q418.2.1 137 15)]) (rest := []) (c := mX12_fail) (k1 := 0) dX12_readLiteral_82 rfl rfl rfl sh_137 rfl rfl (Nat.le_of_ble_eq_true rfl) (Nat.le_of_ble_eq_true rfl) (by decide) ?_
                refine A_X12_fail e433 ?_
                show z_G none 5 mX12_readLiteral 85 [some (.ref 139), some (.int a1), some (.int (z_tb q1.1)), none] [] q432.2 Q
                refine g_aload_n dX12_readLiteral_85 rfl rfl ?_
                refine g_get (a := 137) (v := .int (q432.2.1 137 12)) dX12_readLiteral_86 f_12_212 sh_137 rfl rfl ?_
                refine g_if_le (t := 96) dX12_readLiteral_89 (by decide) (fun c434 => ?_) (fun c434 => ?_)
                · replace h := z_ift c434 h
                  refine g_aload_n dX12_readLiteral_96 rfl rfl ?_
                  obtain ⟨q435, e436, h⟩ := z_bd h
                  refine g_callV (a := 137) (as := []) (rest := []) (c := mX12_named) (k1 := 0) dX12_readLiteral_97 rfl rfl rfl sh_137 rfl rfl (Nat.le_of_ble_eq_true rfl) (Nat.le_of_ble_eq_true rfl) (by decide) ?_
                  refine A_X12_named e436 ?_
                  show z_G none 5 mX12_readLiteral 100 [some (.ref 139), some (.int a1), some (.int (z_tb q1.1)), none] [.int q435.1] q435.2 Q
                  refine g_iload_n dX12_readLiteral_100 rfl rfl ?_
                  refine g_if_eq (t := 109) dX12_readLiteral_101 (by decide) (fun c437 => ?_) (fun c437 => ?_)
                  · replace h := z_iff (z_tb0.mp c437) h
                    refine g_iconst (v := (0 : Int32)) dX12_readLiteral_109 (by decide) ?_
                    refine g_iadd dX12_readLiteral_110 ?_
                    refine g_istore_n (ls' := [some (.ref 139), some (.int a1), some (.int (z_tb q1.1)), some (.int (q435.1 + (0 : Int32)))]) dX12_readLiteral_111 rfl (Nat.le_of_ble_eq_true rfl) rfl ?_
                    refine g_aload_n dX12_readLiteral_112 rfl rfl ?_
                    refine g_iconst (v := (1 : Int32)) dX12_readLiteral_113 (by decide) ?_
                    obtain ⟨q438, e439, h⟩ := z_bd h
                    refine g_callV (a := 137) (as := [.int (1 : Int32)]) (rest := []) (c := mX12_must) (k1 := 2) dX12_readLiteral_114 rfl rfl rfl sh_137 rfl rfl (Nat.le_of_ble_eq_true rfl) (Nat.le_of_ble_eq_true rfl) (by decide) ?_
                    refine A_X12_must e439 ?_
                    show z_G none 5 mX12_readLiteral 117 [some (.ref 139), some (.int a1), some (.int (z_tb q1.1)), some (.int (q435.1 + (0 : Int32)))] [] q438.2 Q
                    refine g_iload_n dX12_readLiteral_117 rfl rfl ?_
                    cases h
                    exact g_iret dX12_readLiteral_118 rfl rfl hq
                  · replace h := z_ift (z_tbn.mp c437) h
                    refine g_bipush (v := (6 : Int32)) dX12_readLiteral_104 (by decide) ?_
                    refine g_goto (t := 110) dX12_readLiteral_106 (by decide) ?_
                    refine g_iadd dX12_readLiteral_110 ?_
                    refine g_istore_n (ls' := [some (.ref 139), some (.int a1), some (.int (z_tb q1.1)), some (.int (q435.1 + (6 : Int32)))]) dX12_readLiteral_111 rfl (Nat.le_of_ble_eq_true rfl) rfl ?_
                    refine g_aload_n dX12_readLiteral_112 rfl rfl ?_
                    refine g_iconst (v := (1 : Int32)) dX12_readLiteral_113 (by decide) ?_
                    obtain ⟨q440, e441, h⟩ := z_bd h
                    refine g_callV (a := 137) (as := [.int (1 : Int32)]) (rest := []) (c := mX12_must) (k1 := 2) dX12_readLiteral_114 rfl rfl rfl sh_137 rfl rfl (Nat.le_of_ble_eq_true rfl) (Nat.le_of_ble_eq_true rfl) (by decide) ?_
                    refine A_X12_must e441 ?_
                    show z_G none 5 mX12_readLiteral 117 [some (.ref 139), some (.int a1), some (.int (z_tb q1.1)), some (.int (q435.1 + (6 : Int32)))] [] q440.2 Q
                    refine g_iload_n dX12_readLiteral_117 rfl rfl ?_
                    cases h
                    exact g_iret dX12_readLiteral_118 rfl rfl hq
                · replace h := z_iff c434 h
                  refine g_iconst (v := (0 : Int32)) dX12_readLiteral_92 (by decide) ?_
                  refine g_goto (t := 111) dX12_readLiteral_93 (by decide) ?_
                  refine g_istore_n (ls' := [some (.ref 139), some (.int a1), some (.int (z_tb q1.1)), some (.int (0 : Int32))]) dX12_readLiteral_111 rfl (Nat.le_of_ble_eq_true rfl) rfl ?_
                  refine g_aload_n dX12_readLiteral_112 rfl rfl ?_
                  refine g_iconst (v := (1 : Int32)) dX12_readLiteral_113 (by decide) ?_
                  obtain ⟨q442, e443, h⟩ := z_bd h
                  refine g_callV (a := 137) (as := [.int (1 : Int32)]) (rest := []) (c := mX12_must) (k1 := 2) dX12_readLiteral_114 rfl rfl rfl sh_137 rfl rfl (Nat.le_of_ble_eq_true rfl) (Nat.le_of_ble_eq_true rfl) (by decide) ?_
                  refine A_X12_must e443 ?_
                  show z_G none 5 mX12_readLiteral 117 [some (.ref 139), some (.int a1), some (.int (z_tb q1.1)), some (.int (0 : Int32))] [] q442.2 Q
                  refine g_iload_n dX12_readLiteral_117 rfl rfl ?_
                  cases h
                  exact g_iret dX12_readLiteral_118 rfl rfl hq
            · replace h := z_iff c420 h
              refine g_aload_n dX12_readLiteral_63 rfl rfl ?_
              refine g_iconst (v := (3 : Int32)) dX12_readLiteral_64 (by decide) ?_
              refine g_aload_n dX12_readLiteral_65 rfl rfl ?_
              refine g_get (a := 137) (v := .int (q418.2.1 137 15)) dX12_readLiteral_66 f_12_106 sh_137 rfl rfl ?_
              obtain ⟨q444, e445, h⟩ := z_bd h
              refine g_callV (a := 137) (as := [.int (3 : Int32), .int (q418.2.1 137 15)]) (rest := []) (c := mX12_fail) (k1 := 0) dX12_readLiteral_69 rfl rfl rfl sh_137 rfl rfl (Nat.le_of_ble_eq_true rfl) (Nat.le_of_ble_eq_true rfl) (by decide) ?_
              refine A_X12_fail e445 ?_
              show z_G none 5 mX12_readLiteral 72 [some (.ref 139), some (.int a1), some (.int (z_tb q1.1)), none] [] q444.2 Q
              refine g_iload_n dX12_readLiteral_72 rfl rfl ?_
              refine g_if_eq (t := 85) dX12_readLiteral_73 (by decide) (fun c446 => ?_) (fun c446 => ?_)
              · replace h := z_ift c446 h
                refine g_aload_n dX12_readLiteral_85 rfl rfl ?_
                refine g_get (a := 137) (v := .int (q444.2.1 137 12)) dX12_readLiteral_86 f_12_212 sh_137 rfl rfl ?_
                refine g_if_le (t := 96) dX12_readLiteral_89 (by decide) (fun c447 => ?_) (fun c447 => ?_)
                · replace h := z_ift c447 h
                  refine g_aload_n dX12_readLiteral_96 rfl rfl ?_
                  obtain ⟨q448, e449, h⟩ := z_bd h
                  refine g_callV (a := 137) (as := []) (rest := []) (c := mX12_named) (k1 := 0) dX12_readLiteral_97 rfl rfl rfl sh_137 rfl rfl (Nat.le_of_ble_eq_true rfl) (Nat.le_of_ble_eq_true rfl) (by decide) ?_
                  refine A_X12_named e449 ?_
                  show z_G none 5 mX12_readLiteral 100 [some (.ref 139), some (.int a1), some (.int (z_tb q1.1)), none] [.int q448.1] q448.2 Q
                  refine g_iload_n dX12_readLiteral_100 rfl rfl ?_
                  refine g_if_eq (t := 109) dX12_readLiteral_101 (by decide) (fun c450 => ?_) (fun c450 => ?_)
                  · replace h := z_iff (z_tb0.mp c450) h
                    refine g_iconst (v := (0 : Int32)) dX12_readLiteral_109 (by decide) ?_
                    refine g_iadd dX12_readLiteral_110 ?_
                    refine g_istore_n (ls' := [some (.ref 139), some (.int a1), some (.int (z_tb q1.1)), some (.int (q448.1 + (0 : Int32)))]) dX12_readLiteral_111 rfl (Nat.le_of_ble_eq_true rfl) rfl ?_
                    refine g_aload_n dX12_readLiteral_112 rfl rfl ?_
                    refine g_iconst (v := (1 : Int32)) dX12_readLiteral_113 (by decide) ?_
                    obtain ⟨q451, e452, h⟩ := z_bd h
                    refine g_callV (a := 137) (as := [.int (1 : Int32)]) (rest := []) (c := mX12_must) (k1 := 2) dX12_readLiteral_114 rfl rfl rfl sh_137 rfl rfl (Nat.le_of_ble_eq_true rfl) (Nat.le_of_ble_eq_true rfl) (by decide) ?_
                    refine A_X12_must e452 ?_
                    show z_G none 5 mX12_readLiteral 117 [some (.ref 139), some (.int a1), some (.int (z_tb q1.1)), some (.int (q448.1 + (0 : Int32)))] [] q451.2 Q
                    refine g_iload_n dX12_readLiteral_117 rfl rfl ?_
                    cases h
                    exact g_iret dX12_readLiteral_118 rfl rfl hq
                  · replace h := z_ift (z_tbn.mp c450) h
                    refine g_bipush (v := (6 : Int32)) dX12_readLiteral_104 (by decide) ?_
                    refine g_goto (t := 110) dX12_readLiteral_106 (by decide) ?_
                    refine g_iadd dX12_readLiteral_110 ?_
                    refine g_istore_n (ls' := [some (.ref 139), some (.int a1), some (.int (z_tb q1.1)), some (.int (q448.1 + (6 : Int32)))]) dX12_readLiteral_111 rfl (Nat.le_of_ble_eq_true rfl) rfl ?_
                    refine g_aload_n dX12_readLiteral_112 rfl rfl ?_
                    refine g_iconst (v := (1 : Int32)) dX12_readLiteral_113 (by decide) ?_
                    obtain ⟨q453, e454, h⟩ := z_bd h
                    refine g_callV (a := 137) (as := [.int (1 : Int32)]) (rest := []) (c := mX12_must) (k1 := 2) dX12_readLiteral_114 rfl rfl rfl sh_137 rfl rfl (Nat.le_of_ble_eq_true rfl) (Nat.le_of_ble_eq_true rfl) (by decide) ?_
                    refine A_X12_must e454 ?_
                    show z_G none 5 mX12_readLiteral 117 [some (.ref 139), some (.int a1), some (.int (z_tb q1.1)), some (.int (q448.1 + (6 : Int32)))] [] q453.2 Q
                    refine g_iload_n dX12_readLiteral_117 rfl rfl ?_
                    cases h
                    exact g_iret dX12_readLiteral_118 rfl rfl hq
                · replace h := z_iff c447 h
                  refine g_iconst (v := (0 : Int32)) dX12_readLiteral_92 (by decide) ?_
                  refine g_goto (t := 111) dX12_readLiteral_93 (by decide) ?_
                  refine g_istore_n (ls' := [some (.ref 139), some (.int a1), some (.int (z_tb q1.1)), some (.int (0 : Int32))]) dX12_readLiteral_111 rfl (Nat.le_of_ble_eq_true rfl) rfl ?_
                  refine g_aload_n dX12_readLiteral_112 rfl rfl ?_
                  refine g_iconst (v := (1 : Int32)) dX12_readLiteral_113 (by decide) ?_
                  obtain ⟨q455, e456, h⟩ := z_bd h
                  refine g_callV (a := 137) (as := [.int (1 : Int32)]) (rest := []) (c := mX12_must) (k1 := 2) dX12_readLiteral_114 rfl rfl rfl sh_137 rfl rfl (Nat.le_of_ble_eq_true rfl) (Nat.le_of_ble_eq_true rfl) (by decide) ?_
                  refine A_X12_must e456 ?_
                  show z_G none 5 mX12_readLiteral 117 [some (.ref 139), some (.int a1), some (.int (z_tb q1.1)), some (.int (0 : Int32))] [] q455.2 Q
                  refine g_iload_n dX12_readLiteral_117 rfl rfl ?_
                  cases h
                  exact g_iret dX12_readLiteral_118 rfl rfl hq
              · replace h := z_iff c446 h
                refine g_aload_n dX12_readLiteral_76 rfl rfl ?_
                refine g_iconst (v := (5 : Int32)) dX12_readLiteral_77 (by decide) ?_
                refine g_aload_n dX12_readLiteral_78 rfl rfl ?_
                refine g_get (a := 137) (v := .int (q444.2.1 137 15)) dX12_readLiteral_79 f_12_106 sh_137 rfl rfl ?_
                obtain ⟨q457, e458, h⟩ := z_bd h
                refine g_callV (a := 137) (as := [.int (5 : Int32), .int (q444.2.1 137 15)]) (rest := []) (c := mX12_fail) (k1 := 0) dX12_readLiteral_82 rfl rfl rfl sh_137 rfl rfl (Nat.le_of_ble_eq_true rfl) (Nat.le_of_ble_eq_true rfl) (by decide) ?_
                refine A_X12_fail e458 ?_
                show z_G none 5 mX12_readLiteral 85 [some (.ref 139), some (.int a1), some (.int (z_tb q1.1)), none] [] q457.2 Q
                refine g_aload_n dX12_readLiteral_85 rfl rfl ?_
                refine g_get (a := 137) (v := .int (q457.2.1 137 12)) dX12_readLiteral_86 f_12_212 sh_137 rfl rfl ?_
                refine g_if_le (t := 96) dX12_readLiteral_89 (by decide) (fun c459 => ?_) (fun c459 => ?_)
                · replace h := z_ift c459 h
                  refine g_aload_n dX12_readLiteral_96 rfl rfl ?_
                  obtain ⟨q460, e461, h⟩ := z_bd h
                  refine g_callV (a := 137) (as := []) (rest := []) (c := mX12_named) (k1 := 0) dX12_readLiteral_97 rfl rfl rfl sh_137 rfl rfl (Nat.le_of_ble_eq_true rfl) (Nat.le_of_ble_eq_true rfl) (by decide) ?_
                  refine A_X12_named e461 ?_
                  show z_G none 5 mX12_readLiteral 100 [some (.ref 139), some (.int a1), some (.int (z_tb q1.1)), none] [.int q460.1] q460.2 Q
                  refine g_iload_n dX12_readLiteral_100 rfl rfl ?_
                  refine g_if_eq (t := 109) dX12_readLiteral_101 (by decide) (fun c462 => ?_) (fun c462 => ?_)
                  · replace h := z_iff (z_tb0.mp c462) h
                    refine g_iconst (v := (0 : Int32)) dX12_readLiteral_109 (by decide) ?_
                    refine g_iadd dX12_readLiteral_110 ?_
                    refine g_istore_n (ls' := [some (.ref 139), some (.int a1), some (.int (z_tb q1.1)), some (.int (q460.1 + (0 : Int32)))]) dX12_readLiteral_111 rfl (Nat.le_of_ble_eq_true rfl) rfl ?_
                    refine g_aload_n dX12_readLiteral_112 rfl rfl ?_
                    refine g_iconst (v := (1 : Int32)) dX12_readLiteral_113 (by decide) ?_
                    obtain ⟨q463, e464, h⟩ := z_bd h
                    refine g_callV (a := 137) (as := [.int (1 : Int32)]) (rest := []) (c := mX12_must) (k1 := 2) dX12_readLiteral_114 rfl rfl rfl sh_137 rfl rfl (Nat.le_of_ble_eq_true rfl) (Nat.le_of_ble_eq_true rfl) (by decide) ?_
                    refine A_X12_must e464 ?_
                    show z_G none 5 mX12_readLiteral 117 [some (.ref 139), some (.int a1), some (.int (z_tb q1.1)), some (.int (q460.1 + (0 : Int32)))] [] q463.2 Q
                    refine g_iload_n dX12_readLiteral_117 rfl rfl ?_
                    cases h
                    exact g_iret dX12_readLiteral_118 rfl rfl hq
                  · replace h := z_ift (z_tbn.mp c462) h
                    refine g_bipush (v := (6 : Int32)) dX12_readLiteral_104 (by decide) ?_
                    refine g_goto (t := 110) dX12_readLiteral_106 (by decide) ?_
                    refine g_iadd dX12_readLiteral_110 ?_
                    refine g_istore_n (ls' := [some (.ref 139), some (.int a1), some (.int (z_tb q1.1)), some (.int (q460.1 + (6 : Int32)))]) dX12_readLiteral_111 rfl (Nat.le_of_ble_eq_true rfl) rfl ?_
                    refine g_aload_n dX12_readLiteral_112 rfl rfl ?_
                    refine g_iconst (v := (1 : Int32)) dX12_readLiteral_113 (by decide) ?_
                    obtain ⟨q465, e466, h⟩ := z_bd h
                    refine g_callV (a := 137) (as := [.int (1 : Int32)]) (rest := []) (c := mX12_must) (k1 := 2) dX12_readLiteral_114 rfl rfl rfl sh_137 rfl rfl (Nat.le_of_ble_eq_true rfl) (Nat.le_of_ble_eq_true rfl) (by decide) ?_
                    refine A_X12_must e466 ?_
                    show z_G none 5 mX12_readLiteral 117 [some (.ref 139), some (.int a1), some (.int (z_tb q1.1)), some (.int (q460.1 + (6 : Int32)))] [] q465.2 Q
                    refine g_iload_n dX12_readLiteral_117 rfl rfl ?_
                    cases h
                    exact g_iret dX12_readLiteral_118 rfl rfl hq
                · replace h := z_iff c459 h
                  refine g_iconst (v := (0 : Int32)) dX12_readLiteral_92 (by decide) ?_
                  refine g_goto (t := 111) dX12_readLiteral_93 (by decide) ?_
                  refine g_istore_n (ls' := [some (.ref 139), some (.int a1), some (.int (z_tb q1.1)), some (.int (0 : Int32))]) dX12_readLiteral_111 rfl (Nat.le_of_ble_eq_true rfl) rfl ?_
                  refine g_aload_n dX12_readLiteral_112 rfl rfl ?_
                  refine g_iconst (v := (1 : Int32)) dX12_readLiteral_113 (by decide) ?_
                  obtain ⟨q467, e468, h⟩ := z_bd h
                  refine g_callV (a := 137) (as := [.int (1 : Int32)]) (rest := []) (c := mX12_must) (k1 := 2) dX12_readLiteral_114 rfl rfl rfl sh_137 rfl rfl (Nat.le_of_ble_eq_true rfl) (Nat.le_of_ble_eq_true rfl) (by decide) ?_
                  refine A_X12_must e468 ?_
                  show z_G none 5 mX12_readLiteral 117 [some (.ref 139), some (.int a1), some (.int (z_tb q1.1)), some (.int (0 : Int32))] [] q467.2 Q
                  refine g_iload_n dX12_readLiteral_117 rfl rfl ?_
                  cases h
                  exact g_iret dX12_readLiteral_118 rfl rfl hq
  · replace h := z_ift (z_tbn.mp c3) h
    refine g_iload_n dX12_readLiteral_9 rfl rfl ?_
    refine g_if_eq (t := 22) dX12_readLiteral_10 (by decide) (fun c469 => ?_) (fun c469 => ?_)
    · replace h := z_ift c469 h
      refine g_iload_n dX12_readLiteral_22 rfl rfl ?_
      refine g_if_eq (t := 31) dX12_readLiteral_23 (by decide) (fun c470 => ?_) (fun c470 => ?_)
      · replace h := z_iff (z_tb0.mp c470) h
        refine g_aload_n dX12_readLiteral_31 rfl rfl ?_
        refine g_get (a := 137) (v := .int (q1.2.1 137 12)) dX12_readLiteral_32 f_12_212 sh_137 rfl rfl ?_
        refine g_if_ne (t := 49) dX12_readLiteral_35 (by decide) (fun c471 => ?_) (fun c471 => ?_)
        · replace h := z_iff c471 h
          refine g_aload_n dX12_readLiteral_49 rfl rfl ?_
          refine g_get (a := 137) (v := .int (q1.2.1 137 12)) dX12_readLiteral_50 f_12_212 sh_137 rfl rfl ?_
          refine g_if_ne (t := 72) dX12_readLiteral_53 (by decide) (fun c472 => ?_) (fun c472 => ?_)
          · replace h := z_iff c472 h
            refine g_iload_n dX12_readLiteral_72 rfl rfl ?_
            refine g_if_eq (t := 85) dX12_readLiteral_73 (by decide) (fun c473 => ?_) (fun c473 => ?_)
            · replace h := z_ift c473 h
              refine g_aload_n dX12_readLiteral_85 rfl rfl ?_
              refine g_get (a := 137) (v := .int (q1.2.1 137 12)) dX12_readLiteral_86 f_12_212 sh_137 rfl rfl ?_
              refine g_if_le (t := 96) dX12_readLiteral_89 (by decide) (fun c474 => ?_) (fun c474 => ?_)
              · replace h := z_ift c474 h
                refine g_aload_n dX12_readLiteral_96 rfl rfl ?_
                obtain ⟨q475, e476, h⟩ := z_bd h
                refine g_callV (a := 137) (as := []) (rest := []) (c := mX12_named) (k1 := 0) dX12_readLiteral_97 rfl rfl rfl sh_137 rfl rfl (Nat.le_of_ble_eq_true rfl) (Nat.le_of_ble_eq_true rfl) (by decide) ?_
                refine A_X12_named e476 ?_
                show z_G none 5 mX12_readLiteral 100 [some (.ref 139), some (.int a1), some (.int (z_tb q1.1)), none] [.int q475.1] q475.2 Q
                refine g_iload_n dX12_readLiteral_100 rfl rfl ?_
                refine g_if_eq (t := 109) dX12_readLiteral_101 (by decide) (fun c477 => ?_) (fun c477 => ?_)
                · replace h := z_iff (z_tb0.mp c477) h
                  refine g_iconst (v := (0 : Int32)) dX12_readLiteral_109 (by decide) ?_
                  refine g_iadd dX12_readLiteral_110 ?_
                  refine g_istore_n (ls' := [some (.ref 139), some (.int a1), some (.int (z_tb q1.1)), some (.int (q475.1 + (0 : Int32)))]) dX12_readLiteral_111 rfl (Nat.le_of_ble_eq_true rfl) rfl ?_
                  refine g_aload_n dX12_readLiteral_112 rfl rfl ?_
                  refine g_iconst (v := (1 : Int32)) dX12_readLiteral_113 (by decide) ?_
                  obtain ⟨q478, e479, h⟩ := z_bd h
                  refine g_callV (a := 137) (as := [.int (1 : Int32)]) (rest := []) (c := mX12_must) (k1 := 2) dX12_readLiteral_114 rfl rfl rfl sh_137 rfl rfl (Nat.le_of_ble_eq_true rfl) (Nat.le_of_ble_eq_true rfl) (by decide) ?_
                  refine A_X12_must e479 ?_
                  show z_G none 5 mX12_readLiteral 117 [some (.ref 139), some (.int a1), some (.int (z_tb q1.1)), some (.int (q475.1 + (0 : Int32)))] [] q478.2 Q
                  refine g_iload_n dX12_readLiteral_117 rfl rfl ?_
                  cases h
                  exact g_iret dX12_readLiteral_118 rfl rfl hq
                · replace h := z_ift (z_tbn.mp c477) h
                  refine g_bipush (v := (6 : Int32)) dX12_readLiteral_104 (by decide) ?_
                  refine g_goto (t := 110) dX12_readLiteral_106 (by decide) ?_
                  refine g_iadd dX12_readLiteral_110 ?_
                  refine g_istore_n (ls' := [some (.ref 139), some (.int a1), some (.int (z_tb q1.1)), some (.int (q475.1 + (6 : Int32)))]) dX12_readLiteral_111 rfl (Nat.le_of_ble_eq_true rfl) rfl ?_
                  refine g_aload_n dX12_readLiteral_112 rfl rfl ?_
                  refine g_iconst (v := (1 : Int32)) dX12_readLiteral_113 (by decide) ?_
                  obtain ⟨q480, e481, h⟩ := z_bd h
                  refine g_callV (a := 137) (as := [.int (1 : Int32)]) (rest := []) (c := mX12_must) (k1 := 2) dX12_readLiteral_114 rfl rfl rfl sh_137 rfl rfl (Nat.le_of_ble_eq_true rfl) (Nat.le_of_ble_eq_true rfl) (by decide) ?_
                  refine A_X12_must e481 ?_
                  show z_G none 5 mX12_readLiteral 117 [some (.ref 139), some (.int a1), some (.int (z_tb q1.1)), some (.int (q475.1 + (6 : Int32)))] [] q480.2 Q
                  refine g_iload_n dX12_readLiteral_117 rfl rfl ?_
                  cases h
                  exact g_iret dX12_readLiteral_118 rfl rfl hq
              · replace h := z_iff c474 h
                refine g_iconst (v := (0 : Int32)) dX12_readLiteral_92 (by decide) ?_
                refine g_goto (t := 111) dX12_readLiteral_93 (by decide) ?_
                refine g_istore_n (ls' := [some (.ref 139), some (.int a1), some (.int (z_tb q1.1)), some (.int (0 : Int32))]) dX12_readLiteral_111 rfl (Nat.le_of_ble_eq_true rfl) rfl ?_
                refine g_aload_n dX12_readLiteral_112 rfl rfl ?_
                refine g_iconst (v := (1 : Int32)) dX12_readLiteral_113 (by decide) ?_
                obtain ⟨q482, e483, h⟩ := z_bd h
                refine g_callV (a := 137) (as := [.int (1 : Int32)]) (rest := []) (c := mX12_must) (k1 := 2) dX12_readLiteral_114 rfl rfl rfl sh_137 rfl rfl (Nat.le_of_ble_eq_true rfl) (Nat.le_of_ble_eq_true rfl) (by decide) ?_
                refine A_X12_must e483 ?_
                show z_G none 5 mX12_readLiteral 117 [some (.ref 139), some (.int a1), some (.int (z_tb q1.1)), some (.int (0 : Int32))] [] q482.2 Q
                refine g_iload_n dX12_readLiteral_117 rfl rfl ?_
                cases h
                exact g_iret dX12_readLiteral_118 rfl rfl hq
            · replace h := z_iff c473 h
              refine g_aload_n dX12_readLiteral_76 rfl rfl ?_
              refine g_iconst (v := (5 : Int32)) dX12_readLiteral_77 (by decide) ?_
              refine g_aload_n dX12_readLiteral_78 rfl rfl ?_
              refine g_get (a := 137) (v := .int (q1.2.1 137 15)) dX12_readLiteral_79 f_12_106 sh_137 rfl rfl ?_
              obtain ⟨q484, e485, h⟩ := z_bd h
              refine g_callV (a := 137) (as := [.int (5 : Int32), .int (q1.2.1 137 15)]) (rest := []) (c := mX12_fail) (k1 := 0) dX12_readLiteral_82 rfl rfl rfl sh_137 rfl rfl (Nat.le_of_ble_eq_true rfl) (Nat.le_of_ble_eq_true rfl) (by decide) ?_
              refine A_X12_fail e485 ?_
              show z_G none 5 mX12_readLiteral 85 [some (.ref 139), some (.int a1), some (.int (z_tb q1.1)), none] [] q484.2 Q
              refine g_aload_n dX12_readLiteral_85 rfl rfl ?_
              refine g_get (a := 137) (v := .int (q484.2.1 137 12)) dX12_readLiteral_86 f_12_212 sh_137 rfl rfl ?_
              refine g_if_le (t := 96) dX12_readLiteral_89 (by decide) (fun c486 => ?_) (fun c486 => ?_)
              · replace h := z_ift c486 h
                refine g_aload_n dX12_readLiteral_96 rfl rfl ?_
                obtain ⟨q487, e488, h⟩ := z_bd h
                refine g_callV (a := 137) (as := []) (rest := []) (c := mX12_named) (k1 := 0) dX12_readLiteral_97 rfl rfl rfl sh_137 rfl rfl (Nat.le_of_ble_eq_true rfl) (Nat.le_of_ble_eq_true rfl) (by decide) ?_
                refine A_X12_named e488 ?_
                show z_G none 5 mX12_readLiteral 100 [some (.ref 139), some (.int a1), some (.int (z_tb q1.1)), none] [.int q487.1] q487.2 Q
                refine g_iload_n dX12_readLiteral_100 rfl rfl ?_
                refine g_if_eq (t := 109) dX12_readLiteral_101 (by decide) (fun c489 => ?_) (fun c489 => ?_)
                · replace h := z_iff (z_tb0.mp c489) h
                  refine g_iconst (v := (0 : Int32)) dX12_readLiteral_109 (by decide) ?_
                  refine g_iadd dX12_readLiteral_110 ?_
                  refine g_istore_n (ls' := [some (.ref 139), some (.int a1), some (.int (z_tb q1.1)), some (.int (q487.1 + (0 : Int32)))]) dX12_readLiteral_111 rfl (Nat.le_of_ble_eq_true rfl) rfl ?_
                  refine g_aload_n dX12_readLiteral_112 rfl rfl ?_
                  refine g_iconst (v := (1 : Int32)) dX12_readLiteral_113 (by decide) ?_
                  obtain ⟨q490, e491, h⟩ := z_bd h
                  refine g_callV (a := 137) (as := [.int (1 : Int32)]) (rest := []) (c := mX12_must) (k1 := 2) dX12_readLiteral_114 rfl rfl rfl sh_137 rfl rfl (Nat.le_of_ble_eq_true rfl) (Nat.le_of_ble_eq_true rfl) (by decide) ?_
                  refine A_X12_must e491 ?_
                  show z_G none 5 mX12_readLiteral 117 [some (.ref 139), some (.int a1), some (.int (z_tb q1.1)), some (.int (q487.1 + (0 : Int32)))] [] q490.2 Q
                  refine g_iload_n dX12_readLiteral_117 rfl rfl ?_
                  cases h
                  exact g_iret dX12_readLiteral_118 rfl rfl hq
                · replace h := z_ift (z_tbn.mp c489) h
                  refine g_bipush (v := (6 : Int32)) dX12_readLiteral_104 (by decide) ?_
                  refine g_goto (t := 110) dX12_readLiteral_106 (by decide) ?_
                  refine g_iadd dX12_readLiteral_110 ?_
                  refine g_istore_n (ls' := [some (.ref 139), some (.int a1), some (.int (z_tb q1.1)), some (.int (q487.1 + (6 : Int32)))]) dX12_readLiteral_111 rfl (Nat.le_of_ble_eq_true rfl) rfl ?_
                  refine g_aload_n dX12_readLiteral_112 rfl rfl ?_
                  refine g_iconst (v := (1 : Int32)) dX12_readLiteral_113 (by decide) ?_
                  obtain ⟨q492, e493, h⟩ := z_bd h
                  refine g_callV (a := 137) (as := [.int (1 : Int32)]) (rest := []) (c := mX12_must) (k1 := 2) dX12_readLiteral_114 rfl rfl rfl sh_137 rfl rfl (Nat.le_of_ble_eq_true rfl) (Nat.le_of_ble_eq_true rfl) (by decide) ?_
                  refine A_X12_must e493 ?_
                  show z_G none 5 mX12_readLiteral 117 [some (.ref 139), some (.int a1), some (.int (z_tb q1.1)), some (.int (q487.1 + (6 : Int32)))] [] q492.2 Q
                  refine g_iload_n dX12_readLiteral_117 rfl rfl ?_
                  cases h
                  exact g_iret dX12_readLiteral_118 rfl rfl hq
              · replace h := z_iff c486 h
                refine g_iconst (v := (0 : Int32)) dX12_readLiteral_92 (by decide) ?_
                refine g_goto (t := 111) dX12_readLiteral_93 (by decide) ?_
                refine g_istore_n (ls' := [some (.ref 139), some (.int a1), some (.int (z_tb q1.1)), some (.int (0 : Int32))]) dX12_readLiteral_111 rfl (Nat.le_of_ble_eq_true rfl) rfl ?_
                refine g_aload_n dX12_readLiteral_112 rfl rfl ?_
                refine g_iconst (v := (1 : Int32)) dX12_readLiteral_113 (by decide) ?_
                obtain ⟨q494, e495, h⟩ := z_bd h
                refine g_callV (a := 137) (as := [.int (1 : Int32)]) (rest := []) (c := mX12_must) (k1 := 2) dX12_readLiteral_114 rfl rfl rfl sh_137 rfl rfl (Nat.le_of_ble_eq_true rfl) (Nat.le_of_ble_eq_true rfl) (by decide) ?_
                refine A_X12_must e495 ?_
                show z_G none 5 mX12_readLiteral 117 [some (.ref 139), some (.int a1), some (.int (z_tb q1.1)), some (.int (0 : Int32))] [] q494.2 Q
                refine g_iload_n dX12_readLiteral_117 rfl rfl ?_
                cases h
                exact g_iret dX12_readLiteral_118 rfl rfl hq
          · replace h := z_ift c472 h
            refine g_aload_n dX12_readLiteral_56 rfl rfl ?_
            obtain ⟨q496, e497, h⟩ := z_bd h
            refine g_callV (a := 137) (as := []) (rest := []) (c := mX12_named) (k1 := 0) dX12_readLiteral_57 rfl rfl rfl sh_137 rfl rfl (Nat.le_of_ble_eq_true rfl) (Nat.le_of_ble_eq_true rfl) (by decide) ?_
            refine A_X12_named e497 ?_
            show z_G none 5 mX12_readLiteral 60 [some (.ref 139), some (.int a1), some (.int (z_tb q1.1)), none] [.int q496.1] q496.2 Q
            refine g_if_ge (t := 72) dX12_readLiteral_60 (by decide) (fun c498 => ?_) (fun c498 => ?_)
            · replace h := z_ift c498 h
              refine g_iload_n dX12_readLiteral_72 rfl rfl ?_
              refine g_if_eq (t := 85) dX12_readLiteral_73 (by decide) (fun c499 => ?_) (fun c499 => ?_)
              · replace h := z_ift c499 h
                refine g_aload_n dX12_readLiteral_85 rfl rfl ?_
                refine g_get (a := 137) (v := .int (q496.2.1 137 12)) dX12_readLiteral_86 f_12_212 sh_137 rfl rfl ?_
                refine g_if_le (t := 96) dX12_readLiteral_89 (by decide) (fun c500 => ?_) (fun c500 => ?_)
                · replace h := z_ift c500 h
                  refine g_aload_n dX12_readLiteral_96 rfl rfl ?_
                  obtain ⟨q501, e502, h⟩ := z_bd h
                  refine g_callV (a := 137) (as := []) (rest := []) (c := mX12_named) (k1 := 0) dX12_readLiteral_97 rfl rfl rfl sh_137 rfl rfl (Nat.le_of_ble_eq_true rfl) (Nat.le_of_ble_eq_true rfl) (by decide) ?_
                  refine A_X12_named e502 ?_
                  show z_G none 5 mX12_readLiteral 100 [some (.ref 139), some (.int a1), some (.int (z_tb q1.1)), none] [.int q501.1] q501.2 Q
                  refine g_iload_n dX12_readLiteral_100 rfl rfl ?_
                  refine g_if_eq (t := 109) dX12_readLiteral_101 (by decide) (fun c503 => ?_) (fun c503 => ?_)
                  · replace h := z_iff (z_tb0.mp c503) h
                    refine g_iconst (v := (0 : Int32)) dX12_readLiteral_109 (by decide) ?_
                    refine g_iadd dX12_readLiteral_110 ?_
                    refine g_istore_n (ls' := [some (.ref 139), some (.int a1), some (.int (z_tb q1.1)), some (.int (q501.1 + (0 : Int32)))]) dX12_readLiteral_111 rfl (Nat.le_of_ble_eq_true rfl) rfl ?_
                    refine g_aload_n dX12_readLiteral_112 rfl rfl ?_
                    refine g_iconst (v := (1 : Int32)) dX12_readLiteral_113 (by decide) ?_
                    obtain ⟨q504, e505, h⟩ := z_bd h
                    refine g_callV (a := 137) (as := [.int (1 : Int32)]) (rest := []) (c := mX12_must) (k1 := 2) dX12_readLiteral_114 rfl rfl rfl sh_137 rfl rfl (Nat.le_of_ble_eq_true rfl) (Nat.le_of_ble_eq_true rfl) (by decide) ?_
                    refine A_X12_must e505 ?_
                    show z_G none 5 mX12_readLiteral 117 [some (.ref 139), some (.int a1), some (.int (z_tb q1.1)), some (.int (q501.1 + (0 : Int32)))] [] q504.2 Q
                    refine g_iload_n dX12_readLiteral_117 rfl rfl ?_
                    cases h
                    exact g_iret dX12_readLiteral_118 rfl rfl hq
                  · replace h := z_ift (z_tbn.mp c503) h
                    refine g_bipush (v := (6 : Int32)) dX12_readLiteral_104 (by decide) ?_
                    refine g_goto (t := 110) dX12_readLiteral_106 (by decide) ?_
                    refine g_iadd dX12_readLiteral_110 ?_
                    refine g_istore_n (ls' := [some (.ref 139), some (.int a1), some (.int (z_tb q1.1)), some (.int (q501.1 + (6 : Int32)))]) dX12_readLiteral_111 rfl (Nat.le_of_ble_eq_true rfl) rfl ?_
                    refine g_aload_n dX12_readLiteral_112 rfl rfl ?_
                    refine g_iconst (v := (1 : Int32)) dX12_readLiteral_113 (by decide) ?_
                    obtain ⟨q506, e507, h⟩ := z_bd h
                    refine g_callV (a := 137) (as := [.int (1 : Int32)]) (rest := []) (c := mX12_must) (k1 := 2) dX12_readLiteral_114 rfl rfl rfl sh_137 rfl rfl (Nat.le_of_ble_eq_true rfl) (Nat.le_of_ble_eq_true rfl) (by decide) ?_
                    refine A_X12_must e507 ?_
                    show z_G none 5 mX12_readLiteral 117 [some (.ref 139), some (.int a1), some (.int (z_tb q1.1)), some (.int (q501.1 + (6 : Int32)))] [] q506.2 Q
                    refine g_iload_n dX12_readLiteral_117 rfl rfl ?_
                    cases h
                    exact g_iret dX12_readLiteral_118 rfl rfl hq
                · replace h := z_iff c500 h
                  refine g_iconst (v := (0 : Int32)) dX12_readLiteral_92 (by decide) ?_
                  refine g_goto (t := 111) dX12_readLiteral_93 (by decide) ?_
                  refine g_istore_n (ls' := [some (.ref 139), some (.int a1), some (.int (z_tb q1.1)), some (.int (0 : Int32))]) dX12_readLiteral_111 rfl (Nat.le_of_ble_eq_true rfl) rfl ?_
                  refine g_aload_n dX12_readLiteral_112 rfl rfl ?_
                  refine g_iconst (v := (1 : Int32)) dX12_readLiteral_113 (by decide) ?_
                  obtain ⟨q508, e509, h⟩ := z_bd h
                  refine g_callV (a := 137) (as := [.int (1 : Int32)]) (rest := []) (c := mX12_must) (k1 := 2) dX12_readLiteral_114 rfl rfl rfl sh_137 rfl rfl (Nat.le_of_ble_eq_true rfl) (Nat.le_of_ble_eq_true rfl) (by decide) ?_
                  refine A_X12_must e509 ?_
                  show z_G none 5 mX12_readLiteral 117 [some (.ref 139), some (.int a1), some (.int (z_tb q1.1)), some (.int (0 : Int32))] [] q508.2 Q
                  refine g_iload_n dX12_readLiteral_117 rfl rfl ?_
                  cases h
                  exact g_iret dX12_readLiteral_118 rfl rfl hq
              · replace h := z_iff c499 h
                refine g_aload_n dX12_readLiteral_76 rfl rfl ?_
                refine g_iconst (v := (5 : Int32)) dX12_readLiteral_77 (by decide) ?_
                refine g_aload_n dX12_readLiteral_78 rfl rfl ?_
                refine g_get (a := 137) (v := .int (q496.2.1 137 15)) dX12_readLiteral_79 f_12_106 sh_137 rfl rfl ?_
                obtain ⟨q510, e511, h⟩ := z_bd h
                refine g_callV (a := 137) (as := [.int (5 : Int32), .int (q496.2.1 137 15)]) (rest := []) (c := mX12_fail) (k1 := 0) dX12_readLiteral_82 rfl rfl rfl sh_137 rfl rfl (Nat.le_of_ble_eq_true rfl) (Nat.le_of_ble_eq_true rfl) (by decide) ?_
                refine A_X12_fail e511 ?_
                show z_G none 5 mX12_readLiteral 85 [some (.ref 139), some (.int a1), some (.int (z_tb q1.1)), none] [] q510.2 Q
                refine g_aload_n dX12_readLiteral_85 rfl rfl ?_
                refine g_get (a := 137) (v := .int (q510.2.1 137 12)) dX12_readLiteral_86 f_12_212 sh_137 rfl rfl ?_
                refine g_if_le (t := 96) dX12_readLiteral_89 (by decide) (fun c512 => ?_) (fun c512 => ?_)
                · replace h := z_ift c512 h
                  refine g_aload_n dX12_readLiteral_96 rfl rfl ?_
                  obtain ⟨q513, e514, h⟩ := z_bd h
                  refine g_callV (a := 137) (as := []) (rest := []) (c := mX12_named) (k1 := 0) dX12_readLiteral_97 rfl rfl rfl sh_137 rfl rfl (Nat.le_of_ble_eq_true rfl) (Nat.le_of_ble_eq_true rfl) (by decide) ?_
                  refine A_X12_named e514 ?_
                  show z_G none 5 mX12_readLiteral 100 [some (.ref 139), some (.int a1), some (.int (z_tb q1.1)), none] [.int q513.1] q513.2 Q
                  refine g_iload_n dX12_readLiteral_100 rfl rfl ?_
                  refine g_if_eq (t := 109) dX12_readLiteral_101 (by decide) (fun c515 => ?_) (fun c515 => ?_)
                  · replace h := z_iff (z_tb0.mp c515) h
                    refine g_iconst (v := (0 : Int32)) dX12_readLiteral_109 (by decide) ?_
                    refine g_iadd dX12_readLiteral_110 ?_
                    refine g_istore_n (ls' := [some (.ref 139), some (.int a1), some (.int (z_tb q1.1)), some (.int (q513.1 + (0 : Int32)))]) dX12_readLiteral_111 rfl (Nat.le_of_ble_eq_true rfl) rfl ?_
                    refine g_aload_n dX12_readLiteral_112 rfl rfl ?_
                    refine g_iconst (v := (1 : Int32)) dX12_readLiteral_113 (by decide) ?_
                    obtain ⟨q516, e517, h⟩ := z_bd h
                    refine g_callV (a := 137) (as := [.int (1 : Int32)]) (rest := []) (c := mX12_must) (k1 := 2) dX12_readLiteral_114 rfl rfl rfl sh_137 rfl rfl (Nat.le_of_ble_eq_true rfl) (Nat.le_of_ble_eq_true rfl) (by decide) ?_
                    refine A_X12_must e517 ?_
                    show z_G none 5 mX12_readLiteral 117 [some (.ref 139), some (.int a1), some (.int (z_tb q1.1)), some (.int (q513.1 + (0 : Int32)))] [] q516.2 Q
                    refine g_iload_n dX12_readLiteral_117 rfl rfl ?_
                    cases h
                    exact g_iret dX12_readLiteral_118 rfl rfl hq
                  · replace h := z_ift (z_tbn.mp c515) h
                    refine g_bipush (v := (6 : Int32)) dX12_readLiteral_104 (by decide) ?_
                    refine g_goto (t := 110) dX12_readLiteral_106 (by decide) ?_
                    refine g_iadd dX12_readLiteral_110 ?_
                    refine g_istore_n (ls' := [some (.ref 139), some (.int a1), some (.int (z_tb q1.1)), some (.int (q513.1 + (6 : Int32)))]) dX12_readLiteral_111 rfl (Nat.le_of_ble_eq_true rfl) rfl ?_
                    refine g_aload_n dX12_readLiteral_112 rfl rfl ?_
                    refine g_iconst (v := (1 : Int32)) dX12_readLiteral_113 (by decide) ?_
                    obtain ⟨q518, e519, h⟩ := z_bd h
                    refine g_callV (a := 137) (as := [.int (1 : Int32)]) (rest := []) (c := mX12_must) (k1 := 2) dX12_readLiteral_114 rfl rfl rfl sh_137 rfl rfl (Nat.le_of_ble_eq_true rfl) (Nat.le_of_ble_eq_true rfl) (by decide) ?_
                    refine A_X12_must e519 ?_
                    show z_G none 5 mX12_readLiteral 117 [some (.ref 139), some (.int a1), some (.int (z_tb q1.1)), some (.int (q513.1 + (6 : Int32)))] [] q518.2 Q
                    refine g_iload_n dX12_readLiteral_117 rfl rfl ?_
                    cases h
                    exact g_iret dX12_readLiteral_118 rfl rfl hq
                · replace h := z_iff c512 h
                  refine g_iconst (v := (0 : Int32)) dX12_readLiteral_92 (by decide) ?_
                  refine g_goto (t := 111) dX12_readLiteral_93 (by decide) ?_
                  refine g_istore_n (ls' := [some (.ref 139), some (.int a1), some (.int (z_tb q1.1)), some (.int (0 : Int32))]) dX12_readLiteral_111 rfl (Nat.le_of_ble_eq_true rfl) rfl ?_
                  refine g_aload_n dX12_readLiteral_112 rfl rfl ?_
                  refine g_iconst (v := (1 : Int32)) dX12_readLiteral_113 (by decide) ?_
                  obtain ⟨q520, e521, h⟩ := z_bd h
                  refine g_callV (a := 137) (as := [.int (1 : Int32)]) (rest := []) (c := mX12_must) (k1 := 2) dX12_readLiteral_114 rfl rfl rfl sh_137 rfl rfl (Nat.le_of_ble_eq_true rfl) (Nat.le_of_ble_eq_true rfl) (by decide) ?_
                  refine A_X12_must e521 ?_
                  show z_G none 5 mX12_readLiteral 117 [some (.ref 139), some (.int a1), some (.int (z_tb q1.1)), some (.int (0 : Int32))] [] q520.2 Q
                  refine g_iload_n dX12_readLiteral_117 rfl rfl ?_
                  cases h
                  exact g_iret dX12_readLiteral_118 rfl rfl hq
            · replace h := z_iff c498 h
              refine g_aload_n dX12_readLiteral_63 rfl rfl ?_
              refine g_iconst (v := (3 : Int32)) dX12_readLiteral_64 (by decide) ?_
              refine g_aload_n dX12_readLiteral_65 rfl rfl ?_
              refine g_get (a := 137) (v := .int (q496.2.1 137 15)) dX12_readLiteral_66 f_12_106 sh_137 rfl rfl ?_
              obtain ⟨q522, e523, h⟩ := z_bd h
              refine g_callV (a := 137) (as := [.int (3 : Int32), .int (q496.2.1 137 15)]) (rest := []) (c := mX12_fail) (k1 := 0) dX12_readLiteral_69 rfl rfl rfl sh_137 rfl rfl (Nat.le_of_ble_eq_true rfl) (Nat.le_of_ble_eq_true rfl) (by decide) ?_
              refine A_X12_fail e523 ?_
              show z_G none 5 mX12_readLiteral 72 [some (.ref 139), some (.int a1), some (.int (z_tb q1.1)), none] [] q522.2 Q
              refine g_iload_n dX12_readLiteral_72 rfl rfl ?_
              refine g_if_eq (t := 85) dX12_readLiteral_73 (by decide) (fun c524 => ?_) (fun c524 => ?_)
              · replace h := z_ift c524 h
                refine g_aload_n dX12_readLiteral_85 rfl rfl ?_
                refine g_get (a := 137) (v := .int (q522.2.1 137 12)) dX12_readLiteral_86 f_12_212 sh_137 rfl rfl ?_
                refine g_if_le (t := 96) dX12_readLiteral_89 (by decide) (fun c525 => ?_) (fun c525 => ?_)
                · replace h := z_ift c525 h
                  refine g_aload_n dX12_readLiteral_96 rfl rfl ?_
                  obtain ⟨q526, e527, h⟩ := z_bd h
                  refine g_callV (a := 137) (as := []) (rest := []) (c := mX12_named) (k1 := 0) dX12_readLiteral_97 rfl rfl rfl sh_137 rfl rfl (Nat.le_of_ble_eq_true rfl) (Nat.le_of_ble_eq_true rfl) (by decide) ?_
                  refine A_X12_named e527 ?_
                  show z_G none 5 mX12_readLiteral 100 [some (.ref 139), some (.int a1), some (.int (z_tb q1.1)), none] [.int q526.1] q526.2 Q
                  refine g_iload_n dX12_readLiteral_100 rfl rfl ?_
                  refine g_if_eq (t := 109) dX12_readLiteral_101 (by decide) (fun c528 => ?_) (fun c528 => ?_)
                  · replace h := z_iff (z_tb0.mp c528) h
                    refine g_iconst (v := (0 : Int32)) dX12_readLiteral_109 (by decide) ?_
                    refine g_iadd dX12_readLiteral_110 ?_
                    refine g_istore_n (ls' := [some (.ref 139), some (.int a1), some (.int (z_tb q1.1)), some (.int (q526.1 + (0 : Int32)))]) dX12_readLiteral_111 rfl (Nat.le_of_ble_eq_true rfl) rfl ?_
                    refine g_aload_n dX12_readLiteral_112 rfl rfl ?_
                    refine g_iconst (v := (1 : Int32)) dX12_readLiteral_113 (by decide) ?_
                    obtain ⟨q529, e530, h⟩ := z_bd h
                    refine g_callV (a := 137) (as := [.int (1 : Int32)]) (rest := []) (c := mX12_must) (k1 := 2) dX12_readLiteral_114 rfl rfl rfl sh_137 rfl rfl (Nat.le_of_ble_eq_true rfl) (Nat.le_of_ble_eq_true rfl) (by decide) ?_
                    refine A_X12_must e530 ?_
                    show z_G none 5 mX12_readLiteral 117 [some (.ref 139), some (.int a1), some (.int (z_tb q1.1)), some (.int (q526.1 + (0 : Int32)))] [] q529.2 Q
                    refine g_iload_n dX12_readLiteral_117 rfl rfl ?_
                    cases h
                    exact g_iret dX12_readLiteral_118 rfl rfl hq
                  · replace h := z_ift (z_tbn.mp c528) h
                    refine g_bipush (v := (6 : Int32)) dX12_readLiteral_104 (by decide) ?_
                    refine g_goto (t := 110) dX12_readLiteral_106 (by decide) ?_
                    refine g_iadd dX12_readLiteral_110 ?_
                    refine g_istore_n (ls' := [some (.ref 139), some (.int a1), some (.int (z_tb q1.1)), some (.int (q526.1 + (6 : Int32)))]) dX12_readLiteral_111 rfl (Nat.le_of_ble_eq_true rfl) rfl ?_
                    refine g_aload_n dX12_readLiteral_112 rfl rfl ?_
                    refine g_iconst (v := (1 : Int32)) dX12_readLiteral_113 (by decide) ?_
                    obtain ⟨q531, e532, h⟩ := z_bd h
                    refine g_callV (a := 137) (as := [.int (1 : Int32)]) (rest := []) (c := mX12_must) (k1 := 2) dX12_readLiteral_114 rfl rfl rfl sh_137 rfl rfl (Nat.le_of_ble_eq_true rfl) (Nat.le_of_ble_eq_true rfl) (by decide) ?_
                    refine A_X12_must e532 ?_
                    show z_G none 5 mX12_readLiteral 117 [some (.ref 139), some (.int a1), some (.int (z_tb q1.1)), some (.int (q526.1 + (6 : Int32)))] [] q531.2 Q
                    refine g_iload_n dX12_readLiteral_117 rfl rfl ?_
                    cases h
                    exact g_iret dX12_readLiteral_118 rfl rfl hq
                · replace h := z_iff c525 h
                  refine g_iconst (v := (0 : Int32)) dX12_readLiteral_92 (by decide) ?_
                  refine g_goto (t := 111) dX12_readLiteral_93 (by decide) ?_
                  refine g_istore_n (ls' := [some (.ref 139), some (.int a1), some (.int (z_tb q1.1)), some (.int (0 : Int32))]) dX12_readLiteral_111 rfl (Nat.le_of_ble_eq_true rfl) rfl ?_
                  refine g_aload_n dX12_readLiteral_112 rfl rfl ?_
                  refine g_iconst (v := (1 : Int32)) dX12_readLiteral_113 (by decide) ?_
                  obtain ⟨q533, e534, h⟩ := z_bd h
                  refine g_callV (a := 137) (as := [.int (1 : Int32)]) (rest := []) (c := mX12_must) (k1 := 2) dX12_readLiteral_114 rfl rfl rfl sh_137 rfl rfl (Nat.le_of_ble_eq_true rfl) (Nat.le_of_ble_eq_true rfl) (by decide) ?_
                  refine A_X12_must e534 ?_
                  show z_G none 5 mX12_readLiteral 117 [some (.ref 139), some (.int a1), some (.int (z_tb q1.1)), some (.int (0 : Int32))] [] q533.2 Q
                  refine g_iload_n dX12_readLiteral_117 rfl rfl ?_
                  cases h
                  exact g_iret dX12_readLiteral_118 rfl rfl hq
              · replace h := z_iff c524 h
                refine g_aload_n dX12_readLiteral_76 rfl rfl ?_
                refine g_iconst (v := (5 : Int32)) dX12_readLiteral_77 (by decide) ?_
                refine g_aload_n dX12_readLiteral_78 rfl rfl ?_
                refine g_get (a := 137) (v := .int (q522.2.1 137 15)) dX12_readLiteral_79 f_12_106 sh_137 rfl rfl ?_
                obtain ⟨q535, e536, h⟩ := z_bd h
                refine g_callV (a := 137) (as := [.int (5 : Int32), .int (q522.2.1 137 15)]) (rest := []) (c := mX12_fail) (k1 := 0) dX12_readLiteral_82 rfl rfl rfl sh_137 rfl rfl (Nat.le_of_ble_eq_true rfl) (Nat.le_of_ble_eq_true rfl) (by decide) ?_
                refine A_X12_fail e536 ?_
                show z_G none 5 mX12_readLiteral 85 [some (.ref 139), some (.int a1), some (.int (z_tb q1.1)), none] [] q535.2 Q
                refine g_aload_n dX12_readLiteral_85 rfl rfl ?_
                refine g_get (a := 137) (v := .int (q535.2.1 137 12)) dX12_readLiteral_86 f_12_212 sh_137 rfl rfl ?_
                refine g_if_le (t := 96) dX12_readLiteral_89 (by decide) (fun c537 => ?_) (fun c537 => ?_)
                · replace h := z_ift c537 h
                  refine g_aload_n dX12_readLiteral_96 rfl rfl ?_
                  obtain ⟨q538, e539, h⟩ := z_bd h
                  refine g_callV (a := 137) (as := []) (rest := []) (c := mX12_named) (k1 := 0) dX12_readLiteral_97 rfl rfl rfl sh_137 rfl rfl (Nat.le_of_ble_eq_true rfl) (Nat.le_of_ble_eq_true rfl) (by decide) ?_
                  refine A_X12_named e539 ?_
                  show z_G none 5 mX12_readLiteral 100 [some (.ref 139), some (.int a1), some (.int (z_tb q1.1)), none] [.int q538.1] q538.2 Q
                  refine g_iload_n dX12_readLiteral_100 rfl rfl ?_
                  refine g_if_eq (t := 109) dX12_readLiteral_101 (by decide) (fun c540 => ?_) (fun c540 => ?_)
                  · replace h := z_iff (z_tb0.mp c540) h
                    refine g_iconst (v := (0 : Int32)) dX12_readLiteral_109 (by decide) ?_
                    refine g_iadd dX12_readLiteral_110 ?_
                    refine g_istore_n (ls' := [some (.ref 139), some (.int a1), some (.int (z_tb q1.1)), some (.int (q538.1 + (0 : Int32)))]) dX12_readLiteral_111 rfl (Nat.le_of_ble_eq_true rfl) rfl ?_
                    refine g_aload_n dX12_readLiteral_112 rfl rfl ?_
                    refine g_iconst (v := (1 : Int32)) dX12_readLiteral_113 (by decide) ?_
                    obtain ⟨q541, e542, h⟩ := z_bd h
                    refine g_callV (a := 137) (as := [.int (1 : Int32)]) (rest := []) (c := mX12_must) (k1 := 2) dX12_readLiteral_114 rfl rfl rfl sh_137 rfl rfl (Nat.le_of_ble_eq_true rfl) (Nat.le_of_ble_eq_true rfl) (by decide) ?_
                    refine A_X12_must e542 ?_
                    show z_G none 5 mX12_readLiteral 117 [some (.ref 139), some (.int a1), some (.int (z_tb q1.1)), some (.int (q538.1 + (0 : Int32)))] [] q541.2 Q
                    refine g_iload_n dX12_readLiteral_117 rfl rfl ?_
                    cases h
                    exact g_iret dX12_readLiteral_118 rfl rfl hq
                  · replace h := z_ift (z_tbn.mp c540) h
                    refine g_bipush (v := (6 : Int32)) dX12_readLiteral_104 (by decide) ?_
                    refine g_goto (t := 110) dX12_readLiteral_106 (by decide) ?_
                    refine g_iadd dX12_readLiteral_110 ?_
                    refine g_istore_n (ls' := [some (.ref 139), some (.int a1), some (.int (z_tb q1.1)), some (.int (q538.1 + (6 : Int32)))]) dX12_readLiteral_111 rfl (Nat.le_of_ble_eq_true rfl) rfl ?_
                    refine g_aload_n dX12_readLiteral_112 rfl rfl ?_
                    refine g_iconst (v := (1 : Int32)) dX12_readLiteral_113 (by decide) ?_
                    obtain ⟨q543, e544, h⟩ := z_bd h
                    refine g_callV (a := 137) (as := [.int (1 : Int32)]) (rest := []) (c := mX12_must) (k1 := 2) dX12_readLiteral_114 rfl rfl rfl sh_137 rfl rfl (Nat.le_of_ble_eq_true rfl) (Nat.le_of_ble_eq_true rfl) (by decide) ?_
                    refine A_X12_must e544 ?_
                    show z_G none 5 mX12_readLiteral 117 [some (.ref 139), some (.int a1), some (.int (z_tb q1.1)), some (.int (q538.1 + (6 : Int32)))] [] q543.2 Q
                    refine g_iload_n dX12_readLiteral_117 rfl rfl ?_
                    cases h
                    exact g_iret dX12_readLiteral_118 rfl rfl hq
                · replace h := z_iff c537 h
                  refine g_iconst (v := (0 : Int32)) dX12_readLiteral_92 (by decide) ?_
                  refine g_goto (t := 111) dX12_readLiteral_93 (by decide) ?_
                  refine g_istore_n (ls' := [some (.ref 139), some (.int a1), some (.int (z_tb q1.1)), some (.int (0 : Int32))]) dX12_readLiteral_111 rfl (Nat.le_of_ble_eq_true rfl) rfl ?_
                  refine g_aload_n dX12_readLiteral_112 rfl rfl ?_
                  refine g_iconst (v := (1 : Int32)) dX12_readLiteral_113 (by decide) ?_
                  obtain ⟨q545, e546, h⟩ := z_bd h
                  refine g_callV (a := 137) (as := [.int (1 : Int32)]) (rest := []) (c := mX12_must) (k1 := 2) dX12_readLiteral_114 rfl rfl rfl sh_137 rfl rfl (Nat.le_of_ble_eq_true rfl) (Nat.le_of_ble_eq_true rfl) (by decide) ?_
                  refine A_X12_must e546 ?_
                  show z_G none 5 mX12_readLiteral 117 [some (.ref 139), some (.int a1), some (.int (z_tb q1.1)), some (.int (0 : Int32))] [] q545.2 Q
                  refine g_iload_n dX12_readLiteral_117 rfl rfl ?_
                  cases h
                  exact g_iret dX12_readLiteral_118 rfl rfl hq
        · replace h := z_ift c471 h
          refine g_aload_n dX12_readLiteral_38 rfl rfl ?_
          obtain ⟨q547, e548, h⟩ := z_bd h
          refine g_callV (a := 137) (as := []) (rest := []) (c := mX12_isName) (k1 := 4) dX12_readLiteral_39 rfl rfl rfl sh_137 rfl rfl (Nat.le_of_ble_eq_true rfl) (Nat.le_of_ble_eq_true rfl) (by decide) ?_
          refine A_X12_isName e548 ?_
          show z_G none 5 mX12_readLiteral 42 [some (.ref 139), some (.int a1), some (.int (z_tb q1.1)), none] [.int (z_tb q547.1)] q547.2 Q
          refine g_if_ne (t := 49) dX12_readLiteral_42 (by decide) (fun c549 => ?_) (fun c549 => ?_)
          · replace h := z_ift (z_tbn.mp c549) h
            refine g_aload_n dX12_readLiteral_49 rfl rfl ?_
            refine g_get (a := 137) (v := .int (q547.2.1 137 12)) dX12_readLiteral_50 f_12_212 sh_137 rfl rfl ?_
            refine g_if_ne (t := 72) dX12_readLiteral_53 (by decide) (fun c550 => ?_) (fun c550 => ?_)
            · replace h := z_iff c550 h
              refine g_iload_n dX12_readLiteral_72 rfl rfl ?_
              refine g_if_eq (t := 85) dX12_readLiteral_73 (by decide) (fun c551 => ?_) (fun c551 => ?_)
              · replace h := z_ift c551 h
                refine g_aload_n dX12_readLiteral_85 rfl rfl ?_
                refine g_get (a := 137) (v := .int (q547.2.1 137 12)) dX12_readLiteral_86 f_12_212 sh_137 rfl rfl ?_
                refine g_if_le (t := 96) dX12_readLiteral_89 (by decide) (fun c552 => ?_) (fun c552 => ?_)
                · replace h := z_ift c552 h
                  refine g_aload_n dX12_readLiteral_96 rfl rfl ?_
                  obtain ⟨q553, e554, h⟩ := z_bd h
                  refine g_callV (a := 137) (as := []) (rest := []) (c := mX12_named) (k1 := 0) dX12_readLiteral_97 rfl rfl rfl sh_137 rfl rfl (Nat.le_of_ble_eq_true rfl) (Nat.le_of_ble_eq_true rfl) (by decide) ?_
                  refine A_X12_named e554 ?_
                  show z_G none 5 mX12_readLiteral 100 [some (.ref 139), some (.int a1), some (.int (z_tb q1.1)), none] [.int q553.1] q553.2 Q
                  refine g_iload_n dX12_readLiteral_100 rfl rfl ?_
                  refine g_if_eq (t := 109) dX12_readLiteral_101 (by decide) (fun c555 => ?_) (fun c555 => ?_)
                  · replace h := z_iff (z_tb0.mp c555) h
                    refine g_iconst (v := (0 : Int32)) dX12_readLiteral_109 (by decide) ?_
                    refine g_iadd dX12_readLiteral_110 ?_
                    refine g_istore_n (ls' := [some (.ref 139), some (.int a1), some (.int (z_tb q1.1)), some (.int (q553.1 + (0 : Int32)))]) dX12_readLiteral_111 rfl (Nat.le_of_ble_eq_true rfl) rfl ?_
                    refine g_aload_n dX12_readLiteral_112 rfl rfl ?_
                    refine g_iconst (v := (1 : Int32)) dX12_readLiteral_113 (by decide) ?_
                    obtain ⟨q556, e557, h⟩ := z_bd h
                    refine g_callV (a := 137) (as := [.int (1 : Int32)]) (rest := []) (c := mX12_must) (k1 := 2) dX12_readLiteral_114 rfl rfl rfl sh_137 rfl rfl (Nat.le_of_ble_eq_true rfl) (Nat.le_of_ble_eq_true rfl) (by decide) ?_
                    refine A_X12_must e557 ?_
                    show z_G none 5 mX12_readLiteral 117 [some (.ref 139), some (.int a1), some (.int (z_tb q1.1)), some (.int (q553.1 + (0 : Int32)))] [] q556.2 Q
                    refine g_iload_n dX12_readLiteral_117 rfl rfl ?_
                    cases h
                    exact g_iret dX12_readLiteral_118 rfl rfl hq
                  · replace h := z_ift (z_tbn.mp c555) h
                    refine g_bipush (v := (6 : Int32)) dX12_readLiteral_104 (by decide) ?_
                    refine g_goto (t := 110) dX12_readLiteral_106 (by decide) ?_
                    refine g_iadd dX12_readLiteral_110 ?_
                    refine g_istore_n (ls' := [some (.ref 139), some (.int a1), some (.int (z_tb q1.1)), some (.int (q553.1 + (6 : Int32)))]) dX12_readLiteral_111 rfl (Nat.le_of_ble_eq_true rfl) rfl ?_
                    refine g_aload_n dX12_readLiteral_112 rfl rfl ?_
                    refine g_iconst (v := (1 : Int32)) dX12_readLiteral_113 (by decide) ?_
                    obtain ⟨q558, e559, h⟩ := z_bd h
                    refine g_callV (a := 137) (as := [.int (1 : Int32)]) (rest := []) (c := mX12_must) (k1 := 2) dX12_readLiteral_114 rfl rfl rfl sh_137 rfl rfl (Nat.le_of_ble_eq_true rfl) (Nat.le_of_ble_eq_true rfl) (by decide) ?_
                    refine A_X12_must e559 ?_
                    show z_G none 5 mX12_readLiteral 117 [some (.ref 139), some (.int a1), some (.int (z_tb q1.1)), some (.int (q553.1 + (6 : Int32)))] [] q558.2 Q
                    refine g_iload_n dX12_readLiteral_117 rfl rfl ?_
                    cases h
                    exact g_iret dX12_readLiteral_118 rfl rfl hq
                · replace h := z_iff c552 h
                  refine g_iconst (v := (0 : Int32)) dX12_readLiteral_92 (by decide) ?_
                  refine g_goto (t := 111) dX12_readLiteral_93 (by decide) ?_
                  refine g_istore_n (ls' := [some (.ref 139), some (.int a1), some (.int (z_tb q1.1)), some (.int (0 : Int32))]) dX12_readLiteral_111 rfl (Nat.le_of_ble_eq_true rfl) rfl ?_
                  refine g_aload_n dX12_readLiteral_112 rfl rfl ?_
                  refine g_iconst (v := (1 : Int32)) dX12_readLiteral_113 (by decide) ?_
                  obtain ⟨q560, e561, h⟩ := z_bd h
                  refine g_callV (a := 137) (as := [.int (1 : Int32)]) (rest := []) (c := mX12_must) (k1 := 2) dX12_readLiteral_114 rfl rfl rfl sh_137 rfl rfl (Nat.le_of_ble_eq_true rfl) (Nat.le_of_ble_eq_true rfl) (by decide) ?_
                  refine A_X12_must e561 ?_
                  show z_G none 5 mX12_readLiteral 117 [some (.ref 139), some (.int a1), some (.int (z_tb q1.1)), some (.int (0 : Int32))] [] q560.2 Q
                  refine g_iload_n dX12_readLiteral_117 rfl rfl ?_
                  cases h
                  exact g_iret dX12_readLiteral_118 rfl rfl hq
              · replace h := z_iff c551 h
                refine g_aload_n dX12_readLiteral_76 rfl rfl ?_
                refine g_iconst (v := (5 : Int32)) dX12_readLiteral_77 (by decide) ?_
                refine g_aload_n dX12_readLiteral_78 rfl rfl ?_
                refine g_get (a := 137) (v := .int (q547.2.1 137 15)) dX12_readLiteral_79 f_12_106 sh_137 rfl rfl ?_
                obtain ⟨q562, e563, h⟩ := z_bd h
                refine g_callV (a := 137) (as := [.int (5 : Int32), .int (q547.2.1 137 15)]) (rest := []) (c := mX12_fail) (k1 := 0) dX12_readLiteral_82 rfl rfl rfl sh_137 rfl rfl (Nat.le_of_ble_eq_true rfl) (Nat.le_of_ble_eq_true rfl) (by decide) ?_
                refine A_X12_fail e563 ?_
                show z_G none 5 mX12_readLiteral 85 [some (.ref 139), some (.int a1), some (.int (z_tb q1.1)), none] [] q562.2 Q
                refine g_aload_n dX12_readLiteral_85 rfl rfl ?_
                refine g_get (a := 137) (v := .int (q562.2.1 137 12)) dX12_readLiteral_86 f_12_212 sh_137 rfl rfl ?_
                refine g_if_le (t := 96) dX12_readLiteral_89 (by decide) (fun c564 => ?_) (fun c564 => ?_)
                · replace h := z_ift c564 h
                  refine g_aload_n dX12_readLiteral_96 rfl rfl ?_
                  obtain ⟨q565, e566, h⟩ := z_bd h
                  refine g_callV (a := 137) (as := []) (rest := []) (c := mX12_named) (k1 := 0) dX12_readLiteral_97 rfl rfl rfl sh_137 rfl rfl (Nat.le_of_ble_eq_true rfl) (Nat.le_of_ble_eq_true rfl) (by decide) ?_
                  refine A_X12_named e566 ?_
                  show z_G none 5 mX12_readLiteral 100 [some (.ref 139), some (.int a1), some (.int (z_tb q1.1)), none] [.int q565.1] q565.2 Q
                  refine g_iload_n dX12_readLiteral_100 rfl rfl ?_
                  refine g_if_eq (t := 109) dX12_readLiteral_101 (by decide) (fun c567 => ?_) (fun c567 => ?_)
                  · replace h := z_iff (z_tb0.mp c567) h
                    refine g_iconst (v := (0 : Int32)) dX12_readLiteral_109 (by decide) ?_
                    refine g_iadd dX12_readLiteral_110 ?_
                    refine g_istore_n (ls' := [some (.ref 139), some (.int a1), some (.int (z_tb q1.1)), some (.int (q565.1 + (0 : Int32)))]) dX12_readLiteral_111 rfl (Nat.le_of_ble_eq_true rfl) rfl ?_
                    refine g_aload_n dX12_readLiteral_112 rfl rfl ?_
                    refine g_iconst (v := (1 : Int32)) dX12_readLiteral_113 (by decide) ?_
                    obtain ⟨q568, e569, h⟩ := z_bd h
                    refine g_callV (a := 137) (as := [.int (1 : Int32)]) (rest := []) (c := mX12_must) (k1 := 2) dX12_readLiteral_114 rfl rfl rfl sh_137 rfl rfl (Nat.le_of_ble_eq_true rfl) (Nat.le_of_ble_eq_true rfl) (by decide) ?_
                    refine A_X12_must e569 ?_
                    show z_G none 5 mX12_readLiteral 117 [some (.ref 139), some (.int a1), some (.int (z_tb q1.1)), some (.int (q565.1 + (0 : Int32)))] [] q568.2 Q
                    refine g_iload_n dX12_readLiteral_117 rfl rfl ?_
                    cases h
                    exact g_iret dX12_readLiteral_118 rfl rfl hq
                  · replace h := z_ift (z_tbn.mp c567) h
                    refine g_bipush (v := (6 : Int32)) dX12_readLiteral_104 (by decide) ?_
                    refine g_goto (t := 110) dX12_readLiteral_106 (by decide) ?_
                    refine g_iadd dX12_readLiteral_110 ?_
                    refine g_istore_n (ls' := [some (.ref 139), some (.int a1), some (.int (z_tb q1.1)), some (.int (q565.1 + (6 : Int32)))]) dX12_readLiteral_111 rfl (Nat.le_of_ble_eq_true rfl) rfl ?_
                    refine g_aload_n dX12_readLiteral_112 rfl rfl ?_
                    refine g_iconst (v := (1 : Int32)) dX12_readLiteral_113 (by decide) ?_
                    obtain ⟨q570, e571, h⟩ := z_bd h
                    refine g_callV (a := 137) (as := [.int (1 : Int32)]) (rest := []) (c := mX12_must) (k1 := 2) dX12_readLiteral_114 rfl rfl rfl sh_137 rfl rfl (Nat.le_of_ble_eq_true rfl) (Nat.le_of_ble_eq_true rfl) (by decide) ?_
                    refine A_X12_must e571 ?_
                    show z_G none 5 mX12_readLiteral 117 [some (.ref 139), some (.int a1), some (.int (z_tb q1.1)), some (.int (q565.1 + (6 : Int32)))] [] q570.2 Q
                    refine g_iload_n dX12_readLiteral_117 rfl rfl ?_
                    cases h
                    exact g_iret dX12_readLiteral_118 rfl rfl hq
                · replace h := z_iff c564 h
                  refine g_iconst (v := (0 : Int32)) dX12_readLiteral_92 (by decide) ?_
                  refine g_goto (t := 111) dX12_readLiteral_93 (by decide) ?_
                  refine g_istore_n (ls' := [some (.ref 139), some (.int a1), some (.int (z_tb q1.1)), some (.int (0 : Int32))]) dX12_readLiteral_111 rfl (Nat.le_of_ble_eq_true rfl) rfl ?_
                  refine g_aload_n dX12_readLiteral_112 rfl rfl ?_
                  refine g_iconst (v := (1 : Int32)) dX12_readLiteral_113 (by decide) ?_
                  obtain ⟨q572, e573, h⟩ := z_bd h
                  refine g_callV (a := 137) (as := [.int (1 : Int32)]) (rest := []) (c := mX12_must) (k1 := 2) dX12_readLiteral_114 rfl rfl rfl sh_137 rfl rfl (Nat.le_of_ble_eq_true rfl) (Nat.le_of_ble_eq_true rfl) (by decide) ?_
                  refine A_X12_must e573 ?_
                  show z_G none 5 mX12_readLiteral 117 [some (.ref 139), some (.int a1), some (.int (z_tb q1.1)), some (.int (0 : Int32))] [] q572.2 Q
                  refine g_iload_n dX12_readLiteral_117 rfl rfl ?_
                  cases h
                  exact g_iret dX12_readLiteral_118 rfl rfl hq
            · replace h := z_ift c550 h
              refine g_aload_n dX12_readLiteral_56 rfl rfl ?_
              obtain ⟨q574, e575, h⟩ := z_bd h
              refine g_callV (a := 137) (as := []) (rest := []) (c := mX12_named) (k1 := 0) dX12_readLiteral_57 rfl rfl rfl sh_137 rfl rfl (Nat.le_of_ble_eq_true rfl) (Nat.le_of_ble_eq_true rfl) (by decide) ?_
              refine A_X12_named e575 ?_
              show z_G none 5 mX12_readLiteral 60 [some (.ref 139), some (.int a1), some (.int (z_tb q1.1)), none] [.int q574.1] q574.2 Q
              refine g_if_ge (t := 72) dX12_readLiteral_60 (by decide) (fun c576 => ?_) (fun c576 => ?_)
              · replace h := z_ift c576 h
                refine g_iload_n dX12_readLiteral_72 rfl rfl ?_
                refine g_if_eq (t := 85) dX12_readLiteral_73 (by decide) (fun c577 => ?_) (fun c577 => ?_)
                · replace h := z_ift c577 h
                  refine g_aload_n dX12_readLiteral_85 rfl rfl ?_
                  refine g_get (a := 137) (v := .int (q574.2.1 137 12)) dX12_readLiteral_86 f_12_212 sh_137 rfl rfl ?_
                  refine g_if_le (t := 96) dX12_readLiteral_89 (by decide) (fun c578 => ?_) (fun c578 => ?_)
                  · replace h := z_ift c578 h
                    refine g_aload_n dX12_readLiteral_96 rfl rfl ?_
                    obtain ⟨q579, e580, h⟩ := z_bd h
                    refine g_callV (a := 137) (as := []) (rest := []) (c := mX12_named) (k1 := 0) dX12_readLiteral_97 rfl rfl rfl sh_137 rfl rfl (Nat.le_of_ble_eq_true rfl) (Nat.le_of_ble_eq_true rfl) (by decide) ?_
                    refine A_X12_named e580 ?_
                    show z_G none 5 mX12_readLiteral 100 [some (.ref 139), some (.int a1), some (.int (z_tb q1.1)), none] [.int q579.1] q579.2 Q
                    refine g_iload_n dX12_readLiteral_100 rfl rfl ?_
                    refine g_if_eq (t := 109) dX12_readLiteral_101 (by decide) (fun c581 => ?_) (fun c581 => ?_)
                    · replace h := z_iff (z_tb0.mp c581) h
                      refine g_iconst (v := (0 : Int32)) dX12_readLiteral_109 (by decide) ?_
                      refine g_iadd dX12_readLiteral_110 ?_
                      refine g_istore_n (ls' := [some (.ref 139), some (.int a1), some (.int (z_tb q1.1)), some (.int (q579.1 + (0 : Int32)))]) dX12_readLiteral_111 rfl (Nat.le_of_ble_eq_true rfl) rfl ?_
                      refine g_aload_n dX12_readLiteral_112 rfl rfl ?_
                      refine g_iconst (v := (1 : Int32)) dX12_readLiteral_113 (by decide) ?_
                      obtain ⟨q582, e583, h⟩ := z_bd h
                      refine g_callV (a := 137) (as := [.int (1 : Int32)]) (rest := []) (c := mX12_must) (k1 := 2) dX12_readLiteral_114 rfl rfl rfl sh_137 rfl rfl (Nat.le_of_ble_eq_true rfl) (Nat.le_of_ble_eq_true rfl) (by decide) ?_
                      refine A_X12_must e583 ?_
                      show z_G none 5 mX12_readLiteral 117 [some (.ref 139), some (.int a1), some (.int (z_tb q1.1)), some (.int (q579.1 + (0 : Int32)))] [] q582.2 Q
                      refine g_iload_n dX12_readLiteral_117 rfl rfl ?_
                      cases h
                      exact g_iret dX12_readLiteral_118 rfl rfl hq
                    · replace h := z_ift (z_tbn.mp c581) h
                      refine g_bipush (v := (6 : Int32)) dX12_readLiteral_104 (by decide) ?_
                      refine g_goto (t := 110) dX12_readLiteral_106 (by decide) ?_
                      refine g_iadd dX12_readLiteral_110 ?_
                      refine g_istore_n (ls' := [some (.ref 139), some (.int a1), some (.int (z_tb q1.1)), some (.int (q579.1 + (6 : Int32)))]) dX12_readLiteral_111 rfl (Nat.le_of_ble_eq_true rfl) rfl ?_
                      refine g_aload_n dX12_readLiteral_112 rfl rfl ?_
                      refine g_iconst (v := (1 : Int32)) dX12_readLiteral_113 (by decide) ?_
                      obtain ⟨q584, e585, h⟩ := z_bd h
                      refine g_callV (a := 137) (as := [.int (1 : Int32)]) (rest := []) (c := mX12_must) (k1 := 2) dX12_readLiteral_114 rfl rfl rfl sh_137 rfl rfl (Nat.le_of_ble_eq_true rfl) (Nat.le_of_ble_eq_true rfl) (by decide) ?_
                      refine A_X12_must e585 ?_
                      show z_G none 5 mX12_readLiteral 117 [some (.ref 139), some (.int a1), some (.int (z_tb q1.1)), some (.int (q579.1 + (6 : Int32)))] [] q584.2 Q
                      refine g_iload_n dX12_readLiteral_117 rfl rfl ?_
                      cases h
                      exact g_iret dX12_readLiteral_118 rfl rfl hq
                  · replace h := z_iff c578 h
                    refine g_iconst (v := (0 : Int32)) dX12_readLiteral_92 (by decide) ?_
                    refine g_goto (t := 111) dX12_readLiteral_93 (by decide) ?_
                    refine g_istore_n (ls' := [some (.ref 139), some (.int a1), some (.int (z_tb q1.1)), some (.int (0 : Int32))]) dX12_readLiteral_111 rfl (Nat.le_of_ble_eq_true rfl) rfl ?_
                    refine g_aload_n dX12_readLiteral_112 rfl rfl ?_
                    refine g_iconst (v := (1 : Int32)) dX12_readLiteral_113 (by decide) ?_
                    obtain ⟨q586, e587, h⟩ := z_bd h
                    refine g_callV (a := 137) (as := [.int (1 : Int32)]) (rest := []) (c := mX12_must) (k1 := 2) dX12_readLiteral_114 rfl rfl rfl sh_137 rfl rfl (Nat.le_of_ble_eq_true rfl) (Nat.le_of_ble_eq_true rfl) (by decide) ?_
                    refine A_X12_must e587 ?_
                    show z_G none 5 mX12_readLiteral 117 [some (.ref 139), some (.int a1), some (.int (z_tb q1.1)), some (.int (0 : Int32))] [] q586.2 Q
                    refine g_iload_n dX12_readLiteral_117 rfl rfl ?_
                    cases h
                    exact g_iret dX12_readLiteral_118 rfl rfl hq
                · replace h := z_iff c577 h
                  refine g_aload_n dX12_readLiteral_76 rfl rfl ?_
                  refine g_iconst (v := (5 : Int32)) dX12_readLiteral_77 (by decide) ?_
                  refine g_aload_n dX12_readLiteral_78 rfl rfl ?_
                  refine g_get (a := 137) (v := .int (q574.2.1 137 15)) dX12_readLiteral_79 f_12_106 sh_137 rfl rfl ?_
                  obtain ⟨q588, e589, h⟩ := z_bd h
                  refine g_callV (a := 137) (as := [.int (5 : Int32), .int (q574.2.1 137 15)]) (rest := []) (c := mX12_fail) (k1 := 0) dX12_readLiteral_82 rfl rfl rfl sh_137 rfl rfl (Nat.le_of_ble_eq_true rfl) (Nat.le_of_ble_eq_true rfl) (by decide) ?_
                  refine A_X12_fail e589 ?_
                  show z_G none 5 mX12_readLiteral 85 [some (.ref 139), some (.int a1), some (.int (z_tb q1.1)), none] [] q588.2 Q
                  refine g_aload_n dX12_readLiteral_85 rfl rfl ?_
                  refine g_get (a := 137) (v := .int (q588.2.1 137 12)) dX12_readLiteral_86 f_12_212 sh_137 rfl rfl ?_
                  refine g_if_le (t := 96) dX12_readLiteral_89 (by decide) (fun c590 => ?_) (fun c590 => ?_)
                  · replace h := z_ift c590 h
                    refine g_aload_n dX12_readLiteral_96 rfl rfl ?_
                    obtain ⟨q591, e592, h⟩ := z_bd h
                    refine g_callV (a := 137) (as := []) (rest := []) (c := mX12_named) (k1 := 0) dX12_readLiteral_97 rfl rfl rfl sh_137 rfl rfl (Nat.le_of_ble_eq_true rfl) (Nat.le_of_ble_eq_true rfl) (by decide) ?_
                    refine A_X12_named e592 ?_
                    show z_G none 5 mX12_readLiteral 100 [some (.ref 139), some (.int a1), some (.int (z_tb q1.1)), none] [.int q591.1] q591.2 Q
                    refine g_iload_n dX12_readLiteral_100 rfl rfl ?_
                    refine g_if_eq (t := 109) dX12_readLiteral_101 (by decide) (fun c593 => ?_) (fun c593 => ?_)
                    · replace h := z_iff (z_tb0.mp c593) h
                      refine g_iconst (v := (0 : Int32)) dX12_readLiteral_109 (by decide) ?_
                      refine g_iadd dX12_readLiteral_110 ?_
                      refine g_istore_n (ls' := [some (.ref 139), some (.int a1), some (.int (z_tb q1.1)), some (.int (q591.1 + (0 : Int32)))]) dX12_readLiteral_111 rfl (Nat.le_of_ble_eq_true rfl) rfl ?_
                      refine g_aload_n dX12_readLiteral_112 rfl rfl ?_
                      refine g_iconst (v := (1 : Int32)) dX12_readLiteral_113 (by decide) ?_
                      obtain ⟨q594, e595, h⟩ := z_bd h
                      refine g_callV (a := 137) (as := [.int (1 : Int32)]) (rest := []) (c := mX12_must) (k1 := 2) dX12_readLiteral_114 rfl rfl rfl sh_137 rfl rfl (Nat.le_of_ble_eq_true rfl) (Nat.le_of_ble_eq_true rfl) (by decide) ?_
                      refine A_X12_must e595 ?_
                      show z_G none 5 mX12_readLiteral 117 [some (.ref 139), some (.int a1), some (.int (z_tb q1.1)), some (.int (q591.1 + (0 : Int32)))] [] q594.2 Q
                      refine g_iload_n dX12_readLiteral_117 rfl rfl ?_
                      cases h
                      exact g_iret dX12_readLiteral_118 rfl rfl hq
                    · replace h := z_ift (z_tbn.mp c593) h
                      refine g_bipush (v := (6 : Int32)) dX12_readLiteral_104 (by decide) ?_
                      refine g_goto (t := 110) dX12_readLiteral_106 (by decide) ?_
                      refine g_iadd dX12_readLiteral_110 ?_
                      refine g_istore_n (ls' := [some (.ref 139), some (.int a1), some (.int (z_tb q1.1)), some (.int (q591.1 + (6 : Int32)))]) dX12_readLiteral_111 rfl (Nat.le_of_ble_eq_true rfl) rfl ?_
                      refine g_aload_n dX12_readLiteral_112 rfl rfl ?_
                      refine g_iconst (v := (1 : Int32)) dX12_readLiteral_113 (by decide) ?_
                      obtain ⟨q596, e597, h⟩ := z_bd h
                      refine g_callV (a := 137) (as := [.int (1 : Int32)]) (rest := []) (c := mX12_must) (k1 := 2) dX12_readLiteral_114 rfl rfl rfl sh_137 rfl rfl (Nat.le_of_ble_eq_true rfl) (Nat.le_of_ble_eq_true rfl) (by decide) ?_
                      refine A_X12_must e597 ?_
                      show z_G none 5 mX12_readLiteral 117 [some (.ref 139), some (.int a1), some (.int (z_tb q1.1)), some (.int (q591.1 + (6 : Int32)))] [] q596.2 Q
                      refine g_iload_n dX12_readLiteral_117 rfl rfl ?_
                      cases h
                      exact g_iret dX12_readLiteral_118 rfl rfl hq
                  · replace h := z_iff c590 h
                    refine g_iconst (v := (0 : Int32)) dX12_readLiteral_92 (by decide) ?_
                    refine g_goto (t := 111) dX12_readLiteral_93 (by decide) ?_
                    refine g_istore_n (ls' := [some (.ref 139), some (.int a1), some (.int (z_tb q1.1)), some (.int (0 : Int32))]) dX12_readLiteral_111 rfl (Nat.le_of_ble_eq_true rfl) rfl ?_
                    refine g_aload_n dX12_readLiteral_112 rfl rfl ?_
                    refine g_iconst (v := (1 : Int32)) dX12_readLiteral_113 (by decide) ?_
                    obtain ⟨q598, e599, h⟩ := z_bd h
                    refine g_callV (a := 137) (as := [.int (1 : Int32)]) (rest := []) (c := mX12_must) (k1 := 2) dX12_readLiteral_114 rfl rfl rfl sh_137 rfl rfl (Nat.le_of_ble_eq_true rfl) (Nat.le_of_ble_eq_true rfl) (by decide) ?_
                    refine A_X12_must e599 ?_
                    show z_G none 5 mX12_readLiteral 117 [some (.ref 139), some (.int a1), some (.int (z_tb q1.1)), some (.int (0 : Int32))] [] q598.2 Q
                    refine g_iload_n dX12_readLiteral_117 rfl rfl ?_
                    cases h
                    exact g_iret dX12_readLiteral_118 rfl rfl hq
              · replace h := z_iff c576 h
                refine g_aload_n dX12_readLiteral_63 rfl rfl ?_
                refine g_iconst (v := (3 : Int32)) dX12_readLiteral_64 (by decide) ?_
                refine g_aload_n dX12_readLiteral_65 rfl rfl ?_
                refine g_get (a := 137) (v := .int (q574.2.1 137 15)) dX12_readLiteral_66 f_12_106 sh_137 rfl rfl ?_
                obtain ⟨q600, e601, h⟩ := z_bd h
                refine g_callV (a := 137) (as := [.int (3 : Int32), .int (q574.2.1 137 15)]) (rest := []) (c := mX12_fail) (k1 := 0) dX12_readLiteral_69 rfl rfl rfl sh_137 rfl rfl (Nat.le_of_ble_eq_true rfl) (Nat.le_of_ble_eq_true rfl) (by decide) ?_
                refine A_X12_fail e601 ?_
                show z_G none 5 mX12_readLiteral 72 [some (.ref 139), some (.int a1), some (.int (z_tb q1.1)), none] [] q600.2 Q
                refine g_iload_n dX12_readLiteral_72 rfl rfl ?_
                refine g_if_eq (t := 85) dX12_readLiteral_73 (by decide) (fun c602 => ?_) (fun c602 => ?_)
                · replace h := z_ift c602 h
                  refine g_aload_n dX12_readLiteral_85 rfl rfl ?_
                  refine g_get (a := 137) (v := .int (q600.2.1 137 12)) dX12_readLiteral_86 f_12_212 sh_137 rfl rfl ?_
                  refine g_if_le (t := 96) dX12_readLiteral_89 (by decide) (fun c603 => ?_) (fun c603 => ?_)
                  · replace h := z_ift c603 h
                    refine g_aload_n dX12_readLiteral_96 rfl rfl ?_
                    obtain ⟨q604, e605, h⟩ := z_bd h
                    refine g_callV (a := 137) (as := []) (rest := []) (c := mX12_named) (k1 := 0) dX12_readLiteral_97 rfl rfl rfl sh_137 rfl rfl (Nat.le_of_ble_eq_true rfl) (Nat.le_of_ble_eq_true rfl) (by decide) ?_
                    refine A_X12_named e605 ?_
                    show z_G none 5 mX12_readLiteral 100 [some (.ref 139), some (.int a1), some (.int (z_tb q1.1)), none] [.int q604.1] q604.2 Q
                    refine g_iload_n dX12_readLiteral_100 rfl rfl ?_
                    refine g_if_eq (t := 109) dX12_readLiteral_101 (by decide) (fun c606 => ?_) (fun c606 => ?_)
                    · replace h := z_iff (z_tb0.mp c606) h
                      refine g_iconst (v := (0 : Int32)) dX12_readLiteral_109 (by decide) ?_
                      refine g_iadd dX12_readLiteral_110 ?_
                      refine g_istore_n (ls' := [some (.ref 139), some (.int a1), some (.int (z_tb q1.1)), some (.int (q604.1 + (0 : Int32)))]) dX12_readLiteral_111 rfl (Nat.le_of_ble_eq_true rfl) rfl ?_
                      refine g_aload_n dX12_readLiteral_112 rfl rfl ?_
                      refine g_iconst (v := (1 : Int32)) dX12_readLiteral_113 (by decide) ?_
                      obtain ⟨q607, e608, h⟩ := z_bd h
                      refine g_callV (a := 137) (as := [.int (1 : Int32)]) (rest := []) (c := mX12_must) (k1 := 2) dX12_readLiteral_114 rfl rfl rfl sh_137 rfl rfl (Nat.le_of_ble_eq_true rfl) (Nat.le_of_ble_eq_true rfl) (by decide) ?_
                      refine A_X12_must e608 ?_
                      show z_G none 5 mX12_readLiteral 117 [some (.ref 139), some (.int a1), some (.int (z_tb q1.1)), some (.int (q604.1 + (0 : Int32)))] [] q607.2 Q
                      refine g_iload_n dX12_readLiteral_117 rfl rfl ?_
                      cases h
                      exact g_iret dX12_readLiteral_118 rfl rfl hq
                    · replace h := z_ift (z_tbn.mp c606) h
                      refine g_bipush (v := (6 : Int32)) dX12_readLiteral_104 (by decide) ?_
                      refine g_goto (t := 110) dX12_readLiteral_106 (by decide) ?_
                      refine g_iadd dX12_readLiteral_110 ?_
                      refine g_istore_n (ls' := [some (.ref 139), some (.int a1), some (.int (z_tb q1.1)), some (.int (q604.1 + (6 : Int32)))]) dX12_readLiteral_111 rfl (Nat.le_of_ble_eq_true rfl) rfl ?_
                      refine g_aload_n dX12_readLiteral_112 rfl rfl ?_
                      refine g_iconst (v := (1 : Int32)) dX12_readLiteral_113 (by decide) ?_
                      obtain ⟨q609, e610, h⟩ := z_bd h
                      refine g_callV (a := 137) (as := [.int (1 : Int32)]) (rest := []) (c := mX12_must) (k1 := 2) dX12_readLiteral_114 rfl rfl rfl sh_137 rfl rfl (Nat.le_of_ble_eq_true rfl) (Nat.le_of_ble_eq_true rfl) (by decide) ?_
                      refine A_X12_must e610 ?_
                      show z_G none 5 mX12_readLiteral 117 [some (.ref 139), some (.int a1), some (.int (z_tb q1.1)), some (.int (q604.1 + (6 : Int32)))] [] q609.2 Q
                      refine g_iload_n dX12_readLiteral_117 rfl rfl ?_
                      cases h
                      exact g_iret dX12_readLiteral_118 rfl rfl hq
                  · replace h := z_iff c603 h
                    refine g_iconst (v := (0 : Int32)) dX12_readLiteral_92 (by decide) ?_
                    refine g_goto (t := 111) dX12_readLiteral_93 (by decide) ?_
                    refine g_istore_n (ls' := [some (.ref 139), some (.int a1), some (.int (z_tb q1.1)), some (.int (0 : Int32))]) dX12_readLiteral_111 rfl (Nat.le_of_ble_eq_true rfl) rfl ?_
                    refine g_aload_n dX12_readLiteral_112 rfl rfl ?_
                    refine g_iconst (v := (1 : Int32)) dX12_readLiteral_113 (by decide) ?_
                    obtain ⟨q611, e612, h⟩ := z_bd h
                    refine g_callV (a := 137) (as := [.int (1 : Int32)]) (rest := []) (c := mX12_must) (k1 := 2) dX12_readLiteral_114 rfl rfl rfl sh_137 rfl rfl (Nat.le_of_ble_eq_true rfl) (Nat.le_of_ble_eq_true rfl) (by decide) ?_
                    refine A_X12_must e612 ?_
                    show z_G none 5 mX12_readLiteral 117 [some (.ref 139), some (.int a1), some (.int (z_tb q1.1)), some (.int (0 : Int32))] [] q611.2 Q
                    refine g_iload_n dX12_readLiteral_117 rfl rfl ?_
                    cases h
                    exact g_iret dX12_readLiteral_118 rfl rfl hq
                · replace h := z_iff c602 h
                  refine g_aload_n dX12_readLiteral_76 rfl rfl ?_
                  refine g_iconst (v := (5 : Int32)) dX12_readLiteral_77 (by decide) ?_
                  refine g_aload_n dX12_readLiteral_78 rfl rfl ?_
                  refine g_get (a := 137) (v := .int (q600.2.1 137 15)) dX12_readLiteral_79 f_12_106 sh_137 rfl rfl ?_
                  obtain ⟨q613, e614, h⟩ := z_bd h
                  refine g_callV (a := 137) (as := [.int (5 : Int32), .int (q600.2.1 137 15)]) (rest := []) (c := mX12_fail) (k1 := 0) dX12_readLiteral_82 rfl rfl rfl sh_137 rfl rfl (Nat.le_of_ble_eq_true rfl) (Nat.le_of_ble_eq_true rfl) (by decide) ?_
                  refine A_X12_fail e614 ?_
                  show z_G none 5 mX12_readLiteral 85 [some (.ref 139), some (.int a1), some (.int (z_tb q1.1)), none] [] q613.2 Q
                  refine g_aload_n dX12_readLiteral_85 rfl rfl ?_
                  refine g_get (a := 137) (v := .int (q613.2.1 137 12)) dX12_readLiteral_86 f_12_212 sh_137 rfl rfl ?_
                  refine g_if_le (t := 96) dX12_readLiteral_89 (by decide) (fun c615 => ?_) (fun c615 => ?_)
                  · replace h := z_ift c615 h
                    refine g_aload_n dX12_readLiteral_96 rfl rfl ?_
                    obtain ⟨q616, e617, h⟩ := z_bd h
                    refine g_callV (a := 137) (as := []) (rest := []) (c := mX12_named) (k1 := 0) dX12_readLiteral_97 rfl rfl rfl sh_137 rfl rfl (Nat.le_of_ble_eq_true rfl) (Nat.le_of_ble_eq_true rfl) (by decide) ?_
                    refine A_X12_named e617 ?_
                    show z_G none 5 mX12_readLiteral 100 [some (.ref 139), some (.int a1), some (.int (z_tb q1.1)), none] [.int q616.1] q616.2 Q
                    refine g_iload_n dX12_readLiteral_100 rfl rfl ?_
                    refine g_if_eq (t := 109) dX12_readLiteral_101 (by decide) (fun c618 => ?_) (fun c618 => ?_)
                    · replace h := z_iff (z_tb0.mp c618) h
                      refine g_iconst (v := (0 : Int32)) dX12_readLiteral_109 (by decide) ?_
                      refine g_iadd dX12_readLiteral_110 ?_
                      refine g_istore_n (ls' := [some (.ref 139), some (.int a1), some (.int (z_tb q1.1)), some (.int (q616.1 + (0 : Int32)))]) dX12_readLiteral_111 rfl (Nat.le_of_ble_eq_true rfl) rfl ?_
                      refine g_aload_n dX12_readLiteral_112 rfl rfl ?_
                      refine g_iconst (v := (1 : Int32)) dX12_readLiteral_113 (by decide) ?_
                      obtain ⟨q619, e620, h⟩ := z_bd h
                      refine g_callV (a := 137) (as := [.int (1 : Int32)]) (rest := []) (c := mX12_must) (k1 := 2) dX12_readLiteral_114 rfl rfl rfl sh_137 rfl rfl (Nat.le_of_ble_eq_true rfl) (Nat.le_of_ble_eq_true rfl) (by decide) ?_
                      refine A_X12_must e620 ?_
                      show z_G none 5 mX12_readLiteral 117 [some (.ref 139), some (.int a1), some (.int (z_tb q1.1)), some (.int (q616.1 + (0 : Int32)))] [] q619.2 Q
                      refine g_iload_n dX12_readLiteral_117 rfl rfl ?_
                      cases h
                      exact g_iret dX12_readLiteral_118 rfl rfl hq
                    · replace h := z_ift (z_tbn.mp c618) h
                      refine g_bipush (v := (6 : Int32)) dX12_readLiteral_104 (by decide) ?_
                      refine g_goto (t := 110) dX12_readLiteral_106 (by decide) ?_
                      refine g_iadd dX12_readLiteral_110 ?_
                      refine g_istore_n (ls' := [some (.ref 139), some (.int a1), some (.int (z_tb q1.1)), some (.int (q616.1 + (6 : Int32)))]) dX12_readLiteral_111 rfl (Nat.le_of_ble_eq_true rfl) rfl ?_
                      refine g_aload_n dX12_readLiteral_112 rfl rfl ?_
                      refine g_iconst (v := (1 : Int32)) dX12_readLiteral_113 (by decide) ?_
                      obtain ⟨q621, e622, h⟩ := z_bd h
                      refine g_callV (a := 137) (as := [.int (1 : Int32)]) (rest := []) (c := mX12_must) (k1 := 2) dX12_readLiteral_114 rfl rfl rfl sh_137 rfl rfl (Nat.le_of_ble_eq_true rfl) (Nat.le_of_ble_eq_true rfl) (by decide) ?_
                      refine A_X12_must e622 ?_
                      show z_G none 5 mX12_readLiteral 117 [some (.ref 139), some (.int a1), some (.int (z_tb q1.1)), some (.int (q616.1 + (6 : Int32)))] [] q621.2 Q
                      refine g_iload_n dX12_readLiteral_117 rfl rfl ?_
                      cases h
                      exact g_iret dX12_readLiteral_118 rfl rfl hq
                  · replace h := z_iff c615 h
                    refine g_iconst (v := (0 : Int32)) dX12_readLiteral_92 (by decide) ?_
                    refine g_goto (t := 111) dX12_readLiteral_93 (by decide) ?_
                    refine g_istore_n (ls' := [some (.ref 139), some (.int a1), some (.int (z_tb q1.1)), some (.int (0 : Int32))]) dX12_readLiteral_111 rfl (Nat.le_of_ble_eq_true rfl) rfl ?_
                    refine g_aload_n dX12_readLiteral_112 rfl rfl ?_
                    refine g_iconst (v := (1 : Int32)) dX12_readLiteral_113 (by decide) ?_
                    obtain ⟨q623, e624, h⟩ := z_bd h
                    refine g_callV (a := 137) (as := [.int (1 : Int32)]) (rest := []) (c := mX12_must) (k1 := 2) dX12_readLiteral_114 rfl rfl rfl sh_137 rfl rfl (Nat.le_of_ble_eq_true rfl) (Nat.le_of_ble_eq_true rfl) (by decide) ?_
                    refine A_X12_must e624 ?_
                    show z_G none 5 mX12_readLiteral 117 [some (.ref 139), some (.int a1), some (.int (z_tb q1.1)), some (.int (0 : Int32))] [] q623.2 Q
                    refine g_iload_n dX12_readLiteral_117 rfl rfl ?_
                    cases h
                    exact g_iret dX12_readLiteral_118 rfl rfl hq
          · replace h := z_iff (z_tb0.mp c549) h
            refine g_aload_n dX12_readLiteral_45 rfl rfl ?_
            obtain ⟨q625, e626, h⟩ := z_bd h
            refine g_callV (a := 137) (as := []) (rest := []) (c := mX12_amiss) (k1 := 1) dX12_readLiteral_46 rfl rfl rfl sh_137 rfl rfl (Nat.le_of_ble_eq_true rfl) (Nat.le_of_ble_eq_true rfl) (by decide) ?_
            refine A_X12_amiss e626 ?_
            show z_G none 5 mX12_readLiteral 49 [some (.ref 139), some (.int a1), some (.int (z_tb q1.1)), none] [] q625.2 Q
            refine g_aload_n dX12_readLiteral_49 rfl rfl ?_
            refine g_get (a := 137) (v := .int (q625.2.1 137 12)) dX12_readLiteral_50 f_12_212 sh_137 rfl rfl ?_
            refine g_if_ne (t := 72) dX12_readLiteral_53 (by decide) (fun c627 => ?_) (fun c627 => ?_)
            · replace h := z_iff c627 h
              refine g_iload_n dX12_readLiteral_72 rfl rfl ?_
              refine g_if_eq (t := 85) dX12_readLiteral_73 (by decide) (fun c628 => ?_) (fun c628 => ?_)
              · replace h := z_ift c628 h
                refine g_aload_n dX12_readLiteral_85 rfl rfl ?_
                refine g_get (a := 137) (v := .int (q625.2.1 137 12)) dX12_readLiteral_86 f_12_212 sh_137 rfl rfl ?_
                refine g_if_le (t := 96) dX12_readLiteral_89 (by decide) (fun c629 => ?_) (fun c629 => ?_)
                · replace h := z_ift c629 h
                  refine g_aload_n dX12_readLiteral_96 rfl rfl ?_
                  obtain ⟨q630, e631, h⟩ := z_bd h
                  refine g_callV (a := 137) (as := []) (rest := []) (c := mX12_named) (k1 := 0) dX12_readLiteral_97 rfl rfl rfl sh_137 rfl rfl (Nat.le_of_ble_eq_true rfl) (Nat.le_of_ble_eq_true rfl) (by decide) ?_
                  refine A_X12_named e631 ?_
                  show z_G none 5 mX12_readLiteral 100 [some (.ref 139), some (.int a1), some (.int (z_tb q1.1)), none] [.int q630.1] q630.2 Q
                  refine g_iload_n dX12_readLiteral_100 rfl rfl ?_
                  refine g_if_eq (t := 109) dX12_readLiteral_101 (by decide) (fun c632 => ?_) (fun c632 => ?_)
                  · replace h := z_iff (z_tb0.mp c632) h
                    refine g_iconst (v := (0 : Int32)) dX12_readLiteral_109 (by decide) ?_
                    refine g_iadd dX12_readLiteral_110 ?_
                    refine g_istore_n (ls' := [some (.ref 139), some (.int a1), some (.int (z_tb q1.1)), some (.int (q630.1 + (0 : Int32)))]) dX12_readLiteral_111 rfl (Nat.le_of_ble_eq_true rfl) rfl ?_
                    refine g_aload_n dX12_readLiteral_112 rfl rfl ?_
                    refine g_iconst (v := (1 : Int32)) dX12_readLiteral_113 (by decide) ?_
                    obtain ⟨q633, e634, h⟩ := z_bd h
                    refine g_callV (a := 137) (as := [.int (1 : Int32)]) (rest := []) (c := mX12_must) (k1 := 2) dX12_readLiteral_114 rfl rfl rfl sh_137 rfl rfl (Nat.le_of_ble_eq_true rfl) (Nat.le_of_ble_eq_true rfl) (by decide) ?_
                    refine A_X12_must e634 ?_
                    show z_G none 5 mX12_readLiteral 117 [some (.ref 139), some (.int a1), some (.int (z_tb q1.1)), some (.int (q630.1 + (0 : Int32)))] [] q633.2 Q
                    refine g_iload_n dX12_readLiteral_117 rfl rfl ?_
                    cases h
                    exact g_iret dX12_readLiteral_118 rfl rfl hq
                  · replace h := z_ift (z_tbn.mp c632) h
                    refine g_bipush (v := (6 : Int32)) dX12_readLiteral_104 (by decide) ?_
                    refine g_goto (t := 110) dX12_readLiteral_106 (by decide) ?_
                    refine g_iadd dX12_readLiteral_110 ?_
                    refine g_istore_n (ls' := [some (.ref 139), some (.int a1), some (.int (z_tb q1.1)), some (.int (q630.1 + (6 : Int32)))]) dX12_readLiteral_111 rfl (Nat.le_of_ble_eq_true rfl) rfl ?_
                    refine g_aload_n dX12_readLiteral_112 rfl rfl ?_
                    refine g_iconst (v := (1 : Int32)) dX12_readLiteral_113 (by decide) ?_
                    obtain ⟨q635, e636, h⟩ := z_bd h
                    refine g_callV (a := 137) (as := [.int (1 : Int32)]) (rest := []) (c := mX12_must) (k1 := 2) dX12_readLiteral_114 rfl rfl rfl sh_137 rfl rfl (Nat.le_of_ble_eq_true rfl) (Nat.le_of_ble_eq_true rfl) (by decide) ?_
                    refine A_X12_must e636 ?_
                    show z_G none 5 mX12_readLiteral 117 [some (.ref 139), some (.int a1), some (.int (z_tb q1.1)), some (.int (q630.1 + (6 : Int32)))] [] q635.2 Q
                    refine g_iload_n dX12_readLiteral_117 rfl rfl ?_
                    cases h
                    exact g_iret dX12_readLiteral_118 rfl rfl hq
                · replace h := z_iff c629 h
                  refine g_iconst (v := (0 : Int32)) dX12_readLiteral_92 (by decide) ?_
                  refine g_goto (t := 111) dX12_readLiteral_93 (by decide) ?_
                  refine g_istore_n (ls' := [some (.ref 139), some (.int a1), some (.int (z_tb q1.1)), some (.int (0 : Int32))]) dX12_readLiteral_111 rfl (Nat.le_of_ble_eq_true rfl) rfl ?_
                  refine g_aload_n dX12_readLiteral_112 rfl rfl ?_
                  refine g_iconst (v := (1 : Int32)) dX12_readLiteral_113 (by decide) ?_
                  obtain ⟨q637, e638, h⟩ := z_bd h
                  refine g_callV (a := 137) (as := [.int (1 : Int32)]) (rest := []) (c := mX12_must) (k1 := 2) dX12_readLiteral_114 rfl rfl rfl sh_137 rfl rfl (Nat.le_of_ble_eq_true rfl) (Nat.le_of_ble_eq_true rfl) (by decide) ?_
                  refine A_X12_must e638 ?_
                  show z_G none 5 mX12_readLiteral 117 [some (.ref 139), some (.int a1), some (.int (z_tb q1.1)), some (.int (0 : Int32))] [] q637.2 Q
                  refine g_iload_n dX12_readLiteral_117 rfl rfl ?_
                  cases h
                  exact g_iret dX12_readLiteral_118 rfl rfl hq
              · replace h := z_iff c628 h
                refine g_aload_n dX12_readLiteral_76 rfl rfl ?_
                refine g_iconst (v := (5 : Int32)) dX12_readLiteral_77 (by decide) ?_
                refine g_aload_n dX12_readLiteral_78 rfl rfl ?_
                refine g_get (a := 137) (v := .int (q625.2.1 137 15)) dX12_readLiteral_79 f_12_106 sh_137 rfl rfl ?_
                obtain ⟨q639, e640, h⟩ := z_bd h
                refine g_callV (a := 137) (as := [.int (5 : Int32), .int (q625.2.1 137 15)]) (rest := []) (c := mX12_fail) (k1 := 0) dX12_readLiteral_82 rfl rfl rfl sh_137 rfl rfl (Nat.le_of_ble_eq_true rfl) (Nat.le_of_ble_eq_true rfl) (by decide) ?_
                refine A_X12_fail e640 ?_
                show z_G none 5 mX12_readLiteral 85 [some (.ref 139), some (.int a1), some (.int (z_tb q1.1)), none] [] q639.2 Q
                refine g_aload_n dX12_readLiteral_85 rfl rfl ?_
                refine g_get (a := 137) (v := .int (q639.2.1 137 12)) dX12_readLiteral_86 f_12_212 sh_137 rfl rfl ?_
                refine g_if_le (t := 96) dX12_readLiteral_89 (by decide) (fun c641 => ?_) (fun c641 => ?_)
                · replace h := z_ift c641 h
                  refine g_aload_n dX12_readLiteral_96 rfl rfl ?_
                  obtain ⟨q642, e643, h⟩ := z_bd h
                  refine g_callV (a := 137) (as := []) (rest := []) (c := mX12_named) (k1 := 0) dX12_readLiteral_97 rfl rfl rfl sh_137 rfl rfl (Nat.le_of_ble_eq_true rfl) (Nat.le_of_ble_eq_true rfl) (by decide) ?_
                  refine A_X12_named e643 ?_
                  show z_G none 5 mX12_readLiteral 100 [some (.ref 139), some (.int a1), some (.int (z_tb q1.1)), none] [.int q642.1] q642.2 Q
                  refine g_iload_n dX12_readLiteral_100 rfl rfl ?_
                  refine g_if_eq (t := 109) dX12_readLiteral_101 (by decide) (fun c644 => ?_) (fun c644 => ?_)
                  · replace h := z_iff (z_tb0.mp c644) h
                    refine g_iconst (v := (0 : Int32)) dX12_readLiteral_109 (by decide) ?_
                    refine g_iadd dX12_readLiteral_110 ?_
                    refine g_istore_n (ls' := [some (.ref 139), some (.int a1), some (.int (z_tb q1.1)), some (.int (q642.1 + (0 : Int32)))]) dX12_readLiteral_111 rfl (Nat.le_of_ble_eq_true rfl) rfl ?_
                    refine g_aload_n dX12_readLiteral_112 rfl rfl ?_
                    refine g_iconst (v := (1 : Int32)) dX12_readLiteral_113 (by decide) ?_
                    obtain ⟨q645, e646, h⟩ := z_bd h
                    refine g_callV (a := 137) (as := [.int (1 : Int32)]) (rest := []) (c := mX12_must) (k1 := 2) dX12_readLiteral_114 rfl rfl rfl sh_137 rfl rfl (Nat.le_of_ble_eq_true rfl) (Nat.le_of_ble_eq_true rfl) (by decide) ?_
                    refine A_X12_must e646 ?_
                    show z_G none 5 mX12_readLiteral 117 [some (.ref 139), some (.int a1), some (.int (z_tb q1.1)), some (.int (q642.1 + (0 : Int32)))] [] q645.2 Q
                    refine g_iload_n dX12_readLiteral_117 rfl rfl ?_
                    cases h
                    exact g_iret dX12_readLiteral_118 rfl rfl hq
                  · replace h := z_ift (z_tbn.mp c644) h
                    refine g_bipush (v := (6 : Int32)) dX12_readLiteral_104 (by decide) ?_
                    refine g_goto (t := 110) dX12_readLiteral_106 (by decide) ?_
                    refine g_iadd dX12_readLiteral_110 ?_
                    refine g_istore_n (ls' := [some (.ref 139), some (.int a1), some (.int (z_tb q1.1)), some (.int (q642.1 + (6 : Int32)))]) dX12_readLiteral_111 rfl (Nat.le_of_ble_eq_true rfl) rfl ?_
                    refine g_aload_n dX12_readLiteral_112 rfl rfl ?_
                    refine g_iconst (v := (1 : Int32)) dX12_readLiteral_113 (by decide) ?_
                    obtain ⟨q647, e648, h⟩ := z_bd h
                    refine g_callV (a := 137) (as := [.int (1 : Int32)]) (rest := []) (c := mX12_must) (k1 := 2) dX12_readLiteral_114 rfl rfl rfl sh_137 rfl rfl (Nat.le_of_ble_eq_true rfl) (Nat.le_of_ble_eq_true rfl) (by decide) ?_
                    refine A_X12_must e648 ?_
                    show z_G none 5 mX12_readLiteral 117 [some (.ref 139), some (.int a1), some (.int (z_tb q1.1)), some (.int (q642.1 + (6 : Int32)))] [] q647.2 Q
                    refine g_iload_n dX12_readLiteral_117 rfl rfl ?_
                    cases h
                    exact g_iret dX12_readLiteral_118 rfl rfl hq
                · replace h := z_iff c641 h
                  refine g_iconst (v := (0 : Int32)) dX12_readLiteral_92 (by decide) ?_
                  refine g_goto (t := 111) dX12_readLiteral_93 (by decide) ?_
                  refine g_istore_n (ls' := [some (.ref 139), some (.int a1), some (.int (z_tb q1.1)), some (.int (0 : Int32))]) dX12_readLiteral_111 rfl (Nat.le_of_ble_eq_true rfl) rfl ?_
                  refine g_aload_n dX12_readLiteral_112 rfl rfl ?_
                  refine g_iconst (v := (1 : Int32)) dX12_readLiteral_113 (by decide) ?_
                  obtain ⟨q649, e650, h⟩ := z_bd h
                  refine g_callV (a := 137) (as := [.int (1 : Int32)]) (rest := []) (c := mX12_must) (k1 := 2) dX12_readLiteral_114 rfl rfl rfl sh_137 rfl rfl (Nat.le_of_ble_eq_true rfl) (Nat.le_of_ble_eq_true rfl) (by decide) ?_
                  refine A_X12_must e650 ?_
                  show z_G none 5 mX12_readLiteral 117 [some (.ref 139), some (.int a1), some (.int (z_tb q1.1)), some (.int (0 : Int32))] [] q649.2 Q
                  refine g_iload_n dX12_readLiteral_117 rfl rfl ?_
                  cases h
                  exact g_iret dX12_readLiteral_118 rfl rfl hq
            · replace h := z_ift c627 h
              refine g_aload_n dX12_readLiteral_56 rfl rfl ?_
              obtain ⟨q651, e652, h⟩ := z_bd h
              refine g_callV (a := 137) (as := []) (rest := []) (c := mX12_named) (k1 := 0) dX12_readLiteral_57 rfl rfl rfl sh_137 rfl rfl (Nat.le_of_ble_eq_true rfl) (Nat.le_of_ble_eq_true rfl) (by decide) ?_
              refine A_X12_named e652 ?_
              show z_G none 5 mX12_readLiteral 60 [some (.ref 139), some (.int a1), some (.int (z_tb q1.1)), none] [.int q651.1] q651.2 Q
              refine g_if_ge (t := 72) dX12_readLiteral_60 (by decide) (fun c653 => ?_) (fun c653 => ?_)
              · replace h := z_ift c653 h
                refine g_iload_n dX12_readLiteral_72 rfl rfl ?_
                refine g_if_eq (t := 85) dX12_readLiteral_73 (by decide) (fun c654 => ?_) (fun c654 => ?_)
                · replace h := z_ift c654 h
                  refine g_aload_n dX12_readLiteral_85 rfl rfl ?_
                  refine g_get (a := 137) (v := .int (q651.2.1 137 12)) dX12_readLiteral_86 f_12_212 sh_137 rfl rfl ?_
                  refine g_if_le (t := 96) dX12_readLiteral_89 (by decide) (fun c655 => ?_) (fun c655 => ?_)
                  · replace h := z_ift c655 h
                    refine g_aload_n dX12_readLiteral_96 rfl rfl ?_
                    obtain ⟨q656, e657, h⟩ := z_bd h
                    refine g_callV (a := 137) (as := []) (rest := []) (c := mX12_named) (k1 := 0) dX12_readLiteral_97 rfl rfl rfl sh_137 rfl rfl (Nat.le_of_ble_eq_true rfl) (Nat.le_of_ble_eq_true rfl) (by decide) ?_
                    refine A_X12_named e657 ?_
                    show z_G none 5 mX12_readLiteral 100 [some (.ref 139), some (.int a1), some (.int (z_tb q1.1)), none] [.int q656.1] q656.2 Q
                    refine g_iload_n dX12_readLiteral_100 rfl rfl ?_
                    refine g_if_eq (t := 109) dX12_readLiteral_101 (by decide) (fun c658 => ?_) (fun c658 => ?_)
                    · replace h := z_iff (z_tb0.mp c658) h
                      refine g_iconst (v := (0 : Int32)) dX12_readLiteral_109 (by decide) ?_
                      refine g_iadd dX12_readLiteral_110 ?_
                      refine g_istore_n (ls' := [some (.ref 139), some (.int a1), some (.int (z_tb q1.1)), some (.int (q656.1 + (0 : Int32)))]) dX12_readLiteral_111 rfl (Nat.le_of_ble_eq_true rfl) rfl ?_
                      refine g_aload_n dX12_readLiteral_112 rfl rfl ?_
                      refine g_iconst (v := (1 : Int32)) dX12_readLiteral_113 (by decide) ?_
                      obtain ⟨q659, e660, h⟩ := z_bd h
                      refine g_callV (a := 137) (as := [.int (1 : Int32)]) (rest := []) (c := mX12_must) (k1 := 2) dX12_readLiteral_114 rfl rfl rfl sh_137 rfl rfl (Nat.le_of_ble_eq_true rfl) (Nat.le_of_ble_eq_true rfl) (by decide) ?_
                      refine A_X12_must e660 ?_
                      show z_G none 5 mX12_readLiteral 117 [some (.ref 139), some (.int a1), some (.int (z_tb q1.1)), some (.int (q656.1 + (0 : Int32)))] [] q659.2 Q
                      refine g_iload_n dX12_readLiteral_117 rfl rfl ?_
                      cases h
                      exact g_iret dX12_readLiteral_118 rfl rfl hq
                    · replace h := z_ift (z_tbn.mp c658) h
                      refine g_bipush (v := (6 : Int32)) dX12_readLiteral_104 (by decide) ?_
                      refine g_goto (t := 110) dX12_readLiteral_106 (by decide) ?_
                      refine g_iadd dX12_readLiteral_110 ?_
                      refine g_istore_n (ls' := [some (.ref 139), some (.int a1), some (.int (z_tb q1.1)), some (.int (q656.1 + (6 : Int32)))]) dX12_readLiteral_111 rfl (Nat.le_of_ble_eq_true rfl) rfl ?_
                      refine g_aload_n dX12_readLiteral_112 rfl rfl ?_
                      refine g_iconst (v := (1 : Int32)) dX12_readLiteral_113 (by decide) ?_
                      obtain ⟨q661, e662, h⟩ := z_bd h
                      refine g_callV (a := 137) (as := [.int (1 : Int32)]) (rest := []) (c := mX12_must) (k1 := 2) dX12_readLiteral_114 rfl rfl rfl sh_137 rfl rfl (Nat.le_of_ble_eq_true rfl) (Nat.le_of_ble_eq_true rfl) (by decide) ?_
                      refine A_X12_must e662 ?_
                      show z_G none 5 mX12_readLiteral 117 [some (.ref 139), some (.int a1), some (.int (z_tb q1.1)), some (.int (q656.1 + (6 : Int32)))] [] q661.2 Q
                      refine g_iload_n dX12_readLiteral_117 rfl rfl ?_
                      cases h
                      exact g_iret dX12_readLiteral_118 rfl rfl hq
                  · replace h := z_iff c655 h
                    refine g_iconst (v := (0 : Int32)) dX12_readLiteral_92 (by decide) ?_
                    refine g_goto (t := 111) dX12_readLiteral_93 (by decide) ?_
                    refine g_istore_n (ls' := [some (.ref 139), some (.int a1), some (.int (z_tb q1.1)), some (.int (0 : Int32))]) dX12_readLiteral_111 rfl (Nat.le_of_ble_eq_true rfl) rfl ?_
                    refine g_aload_n dX12_readLiteral_112 rfl rfl ?_
                    refine g_iconst (v := (1 : Int32)) dX12_readLiteral_113 (by decide) ?_
                    obtain ⟨q663, e664, h⟩ := z_bd h
                    refine g_callV (a := 137) (as := [.int (1 : Int32)]) (rest := []) (c := mX12_must) (k1 := 2) dX12_readLiteral_114 rfl rfl rfl sh_137 rfl rfl (Nat.le_of_ble_eq_true rfl) (Nat.le_of_ble_eq_true rfl) (by decide) ?_
                    refine A_X12_must e664 ?_
                    show z_G none 5 mX12_readLiteral 117 [some (.ref 139), some (.int a1), some (.int (z_tb q1.1)), some (.int (0 : Int32))] [] q663.2 Q
                    refine g_iload_n dX12_readLiteral_117 rfl rfl ?_
                    cases h
                    exact g_iret dX12_readLiteral_118 rfl rfl hq
                · replace h := z_iff c654 h
                  refine g_aload_n dX12_readLiteral_76 rfl rfl ?_
                  refine g_iconst (v := (5 : Int32)) dX12_readLiteral_77 (by decide) ?_
                  refine g_aload_n dX12_readLiteral_78 rfl rfl ?_
                  refine g_get (a := 137) (v := .int (q651.2.1 137 15)) dX12_readLiteral_79 f_12_106 sh_137 rfl rfl ?_
                  obtain ⟨q665, e666, h⟩ := z_bd h
                  refine g_callV (a := 137) (as := [.int (5 : Int32), .int (q651.2.1 137 15)]) (rest := []) (c := mX12_fail) (k1 := 0) dX12_readLiteral_82 rfl rfl rfl sh_137 rfl rfl (Nat.le_of_ble_eq_true rfl) (Nat.le_of_ble_eq_true rfl) (by decide) ?_
                  refine A_X12_fail e666 ?_
                  show z_G none 5 mX12_readLiteral 85 [some (.ref 139), some (.int a1), some (.int (z_tb q1.1)), none] [] q665.2 Q
                  refine g_aload_n dX12_readLiteral_85 rfl rfl ?_
                  refine g_get (a := 137) (v := .int (q665.2.1 137 12)) dX12_readLiteral_86 f_12_212 sh_137 rfl rfl ?_
                  refine g_if_le (t := 96) dX12_readLiteral_89 (by decide) (fun c667 => ?_) (fun c667 => ?_)
                  · replace h := z_ift c667 h
                    refine g_aload_n dX12_readLiteral_96 rfl rfl ?_
                    obtain ⟨q668, e669, h⟩ := z_bd h
                    refine g_callV (a := 137) (as := []) (rest := []) (c := mX12_named) (k1 := 0) dX12_readLiteral_97 rfl rfl rfl sh_137 rfl rfl (Nat.le_of_ble_eq_true rfl) (Nat.le_of_ble_eq_true rfl) (by decide) ?_
                    refine A_X12_named e669 ?_
                    show z_G none 5 mX12_readLiteral 100 [some (.ref 139), some (.int a1), some (.int (z_tb q1.1)), none] [.int q668.1] q668.2 Q
                    refine g_iload_n dX12_readLiteral_100 rfl rfl ?_
                    refine g_if_eq (t := 109) dX12_readLiteral_101 (by decide) (fun c670 => ?_) (fun c670 => ?_)
                    · replace h := z_iff (z_tb0.mp c670) h
                      refine g_iconst (v := (0 : Int32)) dX12_readLiteral_109 (by decide) ?_
                      refine g_iadd dX12_readLiteral_110 ?_
                      refine g_istore_n (ls' := [some (.ref 139), some (.int a1), some (.int (z_tb q1.1)), some (.int (q668.1 + (0 : Int32)))]) dX12_readLiteral_111 rfl (Nat.le_of_ble_eq_true rfl) rfl ?_
                      refine g_aload_n dX12_readLiteral_112 rfl rfl ?_
                      refine g_iconst (v := (1 : Int32)) dX12_readLiteral_113 (by decide) ?_
                      obtain ⟨q671, e672, h⟩ := z_bd h
                      refine g_callV (a := 137) (as := [.int (1 : Int32)]) (rest := []) (c := mX12_must) (k1 := 2) dX12_readLiteral_114 rfl rfl rfl sh_137 rfl rfl (Nat.le_of_ble_eq_true rfl) (Nat.le_of_ble_eq_true rfl) (by decide) ?_
                      refine A_X12_must e672 ?_
                      show z_G none 5 mX12_readLiteral 117 [some (.ref 139), some (.int a1), some (.int (z_tb q1.1)), some (.int (q668.1 + (0 : Int32)))] [] q671.2 Q
                      refine g_iload_n dX12_readLiteral_117 rfl rfl ?_
                      cases h
                      exact g_iret dX12_readLiteral_118 rfl rfl hq
                    · replace h := z_ift (z_tbn.mp c670) h
                      refine g_bipush (v := (6 : Int32)) dX12_readLiteral_104 (by decide) ?_
                      refine g_goto (t := 110) dX12_readLiteral_106 (by decide) ?_
                      refine g_iadd dX12_readLiteral_110 ?_
                      refine g_istore_n (ls' := [some (.ref 139), some (.int a1), some (.int (z_tb q1.1)), some (.int (q668.1 + (6 : Int32)))]) dX12_readLiteral_111 rfl (Nat.le_of_ble_eq_true rfl) rfl ?_
                      refine g_aload_n dX12_readLiteral_112 rfl rfl ?_
                      refine g_iconst (v := (1 : Int32)) dX12_readLiteral_113 (by decide) ?_
                      obtain ⟨q673, e674, h⟩ := z_bd h
                      refine g_callV (a := 137) (as := [.int (1 : Int32)]) (rest := []) (c := mX12_must) (k1 := 2) dX12_readLiteral_114 rfl rfl rfl sh_137 rfl rfl (Nat.le_of_ble_eq_true rfl) (Nat.le_of_ble_eq_true rfl) (by decide) ?_
                      refine A_X12_must e674 ?_
                      show z_G none 5 mX12_readLiteral 117 [some (.ref 139), some (.int a1), some (.int (z_tb q1.1)), some (.int (q668.1 + (6 : Int32)))] [] q673.2 Q
                      refine g_iload_n dX12_readLiteral_117 rfl rfl ?_
                      cases h
                      exact g_iret dX12_readLiteral_118 rfl rfl hq
                  · replace h := z_iff c667 h
                    refine g_iconst (v := (0 : Int32)) dX12_readLiteral_92 (by decide) ?_
                    refine g_goto (t := 111) dX12_readLiteral_93 (by decide) ?_
                    refine g_istore_n (ls' := [some (.ref 139), some (.int a1), some (.int (z_tb q1.1)), some (.int (0 : Int32))]) dX12_readLiteral_111 rfl (Nat.le_of_ble_eq_true rfl) rfl ?_
                    refine g_aload_n dX12_readLiteral_112 rfl rfl ?_
                    refine g_iconst (v := (1 : Int32)) dX12_readLiteral_113 (by decide) ?_
                    obtain ⟨q675, e676, h⟩ := z_bd h
                    refine g_callV (a := 137) (as := [.int (1 : Int32)]) (rest := []) (c := mX12_must) (k1 := 2) dX12_readLiteral_114 rfl rfl rfl sh_137 rfl rfl (Nat.le_of_ble_eq_true rfl) (Nat.le_of_ble_eq_true rfl) (by decide) ?_
                    refine A_X12_must e676 ?_
                    show z_G none 5 mX12_readLiteral 117 [some (.ref 139), some (.int a1), some (.int (z_tb q1.1)), some (.int (0 : Int32))] [] q675.2 Q
                    refine g_iload_n dX12_readLiteral_117 rfl rfl ?_
                    cases h
                    exact g_iret dX12_readLiteral_118 rfl rfl hq
              · replace h := z_iff c653 h
                refine g_aload_n dX12_readLiteral_63 rfl rfl ?_
                refine g_iconst (v := (3 : Int32)) dX12_readLiteral_64 (by decide) ?_
                refine g_aload_n dX12_readLiteral_65 rfl rfl ?_
                refine g_get (a := 137) (v := .int (q651.2.1 137 15)) dX12_readLiteral_66 f_12_106 sh_137 rfl rfl ?_
                obtain ⟨q677, e678, h⟩ := z_bd h
                refine g_callV (a := 137) (as := [.int (3 : Int32), .int (q651.2.1 137 15)]) (rest := []) (c := mX12_fail) (k1 := 0) dX12_readLiteral_69 rfl rfl rfl sh_137 rfl rfl (Nat.le_of_ble_eq_true rfl) (Nat.le_of_ble_eq_true rfl) (by decide) ?_
                refine A_X12_fail e678 ?_
                show z_G none 5 mX12_readLiteral 72 [some (.ref 139), some (.int a1), some (.int (z_tb q1.1)), none] [] q677.2 Q
                refine g_iload_n dX12_readLiteral_72 rfl rfl ?_
                refine g_if_eq (t := 85) dX12_readLiteral_73 (by decide) (fun c679 => ?_) (fun c679 => ?_)
                · replace h := z_ift c679 h
                  refine g_aload_n dX12_readLiteral_85 rfl rfl ?_
                  refine g_get (a := 137) (v := .int (q677.2.1 137 12)) dX12_readLiteral_86 f_12_212 sh_137 rfl rfl ?_
                  refine g_if_le (t := 96) dX12_readLiteral_89 (by decide) (fun c680 => ?_) (fun c680 => ?_)
                  · replace h := z_ift c680 h
                    refine g_aload_n dX12_readLiteral_96 rfl rfl ?_
                    obtain ⟨q681, e682, h⟩ := z_bd h
                    refine g_callV (a := 137) (as := []) (rest := []) (c := mX12_named) (k1 := 0) dX12_readLiteral_97 rfl rfl rfl sh_137 rfl rfl (Nat.le_of_ble_eq_true rfl) (Nat.le_of_ble_eq_true rfl) (by decide) ?_
                    refine A_X12_named e682 ?_
                    show z_G none 5 mX12_readLiteral 100 [some (.ref 139), some (.int a1), some (.int (z_tb q1.1)), none] [.int q681.1] q681.2 Q
                    refine g_iload_n dX12_readLiteral_100 rfl rfl ?_
                    refine g_if_eq (t := 109) dX12_readLiteral_101 (by decide) (fun c683 => ?_) (fun c683 => ?_)
                    · replace h := z_iff (z_tb0.mp c683) h
                      refine g_iconst (v := (0 : Int32)) dX12_readLiteral_109 (by decide) ?_
                      refine g_iadd dX12_readLiteral_110 ?_
                      refine g_istore_n (ls' := [some (.ref 139), some (.int a1), some (.int (z_tb q1.1)), some (.int (q681.1 + (0 : Int32)))]) dX12_readLiteral_111 rfl (Nat.le_of_ble_eq_true rfl) rfl ?_
                      refine g_aload_n dX12_readLiteral_112 rfl rfl ?_
                      refine g_iconst (v := (1 : Int32)) dX12_readLiteral_113 (by decide) ?_
                      obtain ⟨q684, e685, h⟩ := z_bd h
                      refine g_callV (a := 137) (as := [.int (1 : Int32)]) (rest := []) (c := mX12_must) (k1 := 2) dX12_readLiteral_114 rfl rfl rfl sh_137 rfl rfl (Nat.le_of_ble_eq_true rfl) (Nat.le_of_ble_eq_true rfl) (by decide) ?_
                      refine A_X12_must e685 ?_
                      show z_G none 5 mX12_readLiteral 117 [some (.ref 139), some (.int a1), some (.int (z_tb q1.1)), some (.int (q681.1 + (0 : Int32)))] [] q684.2 Q
                      refine g_iload_n dX12_readLiteral_117 rfl rfl ?_
                      cases h
                      exact g_iret dX12_readLiteral_118 rfl rfl hq
                    · replace h := z_ift (z_tbn.mp c683) h
                      refine g_bipush (v := (6 : Int32)) dX12_readLiteral_104 (by decide) ?_
                      refine g_goto (t := 110) dX12_readLiteral_106 (by decide) ?_
                      refine g_iadd dX12_readLiteral_110 ?_
                      refine g_istore_n (ls' := [some (.ref 139), some (.int a1), some (.int (z_tb q1.1)), some (.int (q681.1 + (6 : Int32)))]) dX12_readLiteral_111 rfl (Nat.le_of_ble_eq_true rfl) rfl ?_
                      refine g_aload_n dX12_readLiteral_112 rfl rfl ?_
                      refine g_iconst (v := (1 : Int32)) dX12_readLiteral_113 (by decide) ?_
                      obtain ⟨q686, e687, h⟩ := z_bd h
                      refine g_callV (a := 137) (as := [.int (1 : Int32)]) (rest := []) (c := mX12_must) (k1 := 2) dX12_readLiteral_114 rfl rfl rfl sh_137 rfl rfl (Nat.le_of_ble_eq_true rfl) (Nat.le_of_ble_eq_true rfl) (by decide) ?_
                      refine A_X12_must e687 ?_
                      show z_G none 5 mX12_readLiteral 117 [some (.ref 139), some (.int a1), some (.int (z_tb q1.1)), some (.int (q681.1 + (6 : Int32)))] [] q686.2 Q
                      refine g_iload_n dX12_readLiteral_117 rfl rfl ?_
                      cases h
                      exact g_iret dX12_readLiteral_118 rfl rfl hq
                  · replace h := z_iff c680 h
                    refine g_iconst (v := (0 : Int32)) dX12_readLiteral_92 (by decide) ?_
                    refine g_goto (t := 111) dX12_readLiteral_93 (by decide) ?_
                    refine g_istore_n (ls' := [some (.ref 139), some (.int a1), some (.int (z_tb q1.1)), some (.int (0 : Int32))]) dX12_readLiteral_111 rfl (Nat.le_of_ble_eq_true rfl) rfl ?_
                    refine g_aload_n dX12_readLiteral_112 rfl rfl ?_
                    refine g_iconst (v := (1 : Int32)) dX12_readLiteral_113 (by decide) ?_
                    obtain ⟨q688, e689, h⟩ := z_bd h
                    refine g_callV (a := 137) (as := [.int (1 : Int32)]) (rest := []) (c := mX12_must) (k1 := 2) dX12_readLiteral_114 rfl rfl rfl sh_137 rfl rfl (Nat.le_of_ble_eq_true rfl) (Nat.le_of_ble_eq_true rfl) (by decide) ?_
                    refine A_X12_must e689 ?_
                    show z_G none 5 mX12_readLiteral 117 [some (.ref 139), some (.int a1), some (.int (z_tb q1.1)), some (.int (0 : Int32))] [] q688.2 Q
                    refine g_iload_n dX12_readLiteral_117 rfl rfl ?_
                    cases h
                    exact g_iret dX12_readLiteral_118 rfl rfl hq
                · replace h := z_iff c679 h
                  refine g_aload_n dX12_readLiteral_76 rfl rfl ?_
                  refine g_iconst (v := (5 : Int32)) dX12_readLiteral_77 (by decide) ?_
                  refine g_aload_n dX12_readLiteral_78 rfl rfl ?_
                  refine g_get (a := 137) (v := .int (q677.2.1 137 15)) dX12_readLiteral_79 f_12_106 sh_137 rfl rfl ?_
                  obtain ⟨q690, e691, h⟩ := z_bd h
                  refine g_callV (a := 137) (as := [.int (5 : Int32), .int (q677.2.1 137 15)]) (rest := []) (c := mX12_fail) (k1 := 0) dX12_readLiteral_82 rfl rfl rfl sh_137 rfl rfl (Nat.le_of_ble_eq_true rfl) (Nat.le_of_ble_eq_true rfl) (by decide) ?_
                  refine A_X12_fail e691 ?_
                  show z_G none 5 mX12_readLiteral 85 [some (.ref 139), some (.int a1), some (.int (z_tb q1.1)), none] [] q690.2 Q
                  refine g_aload_n dX12_readLiteral_85 rfl rfl ?_
                  refine g_get (a := 137) (v := .int (q690.2.1 137 12)) dX12_readLiteral_86 f_12_212 sh_137 rfl rfl ?_
                  refine g_if_le (t := 96) dX12_readLiteral_89 (by decide) (fun c692 => ?_) (fun c692 => ?_)
                  · replace h := z_ift c692 h
                    refine g_aload_n dX12_readLiteral_96 rfl rfl ?_
                    obtain ⟨q693, e694, h⟩ := z_bd h
                    refine g_callV (a := 137) (as := []) (rest := []) (c := mX12_named) (k1 := 0) dX12_readLiteral_97 rfl rfl rfl sh_137 rfl rfl (Nat.le_of_ble_eq_true rfl) (Nat.le_of_ble_eq_true rfl) (by decide) ?_
                    refine A_X12_named e694 ?_
                    show z_G none 5 mX12_readLiteral 100 [some (.ref 139), some (.int a1), some (.int (z_tb q1.1)), none] [.int q693.1] q693.2 Q
                    refine g_iload_n dX12_readLiteral_100 rfl rfl ?_
                    refine g_if_eq (t := 109) dX12_readLiteral_101 (by decide) (fun c695 => ?_) (fun c695 => ?_)
                    · replace h := z_iff (z_tb0.mp c695) h
                      refine g_iconst (v := (0 : Int32)) dX12_readLiteral_109 (by decide) ?_
                      refine g_iadd dX12_readLiteral_110 ?_
                      refine g_istore_n (ls' := [some (.ref 139), some (.int a1), some (.int (z_tb q1.1)), some (.int (q693.1 + (0 : Int32)))]) dX12_readLiteral_111 rfl (Nat.le_of_ble_eq_true rfl) rfl ?_
                      refine g_aload_n dX12_readLiteral_112 rfl rfl ?_
                      refine g_iconst (v := (1 : Int32)) dX12_readLiteral_113 (by decide) ?_
                      obtain ⟨q696, e697, h⟩ := z_bd h
                      refine g_callV (a := 137) (as := [.int (1 : Int32)]) (rest := []) (c := mX12_must) (k1 := 2) dX12_readLiteral_114 rfl rfl rfl sh_137 rfl rfl (Nat.le_of_ble_eq_true rfl) (Nat.le_of_ble_eq_true rfl) (by decide) ?_
                      refine A_X12_must e697 ?_
                      show z_G none 5 mX12_readLiteral 117 [some (.ref 139), some (.int a1), some (.int (z_tb q1.1)), some (.int (q693.1 + (0 : Int32)))] [] q696.2 Q
                      refine g_iload_n dX12_readLiteral_117 rfl rfl ?_
                      cases h
                      exact g_iret dX12_readLiteral_118 rfl rfl hq
                    · replace h := z_ift (z_tbn.mp c695) h
                      refine g_bipush (v := (6 : Int32)) dX12_readLiteral_104 (by decide) ?_
                      refine g_goto (t := 110) dX12_readLiteral_106 (by decide) ?_
                      refine g_iadd dX12_readLiteral_110 ?_
                      refine g_istore_n (ls' := [some (.ref 139), some (.int a1), some (.int (z_tb q1.1)), some (.int (q693.1 + (6 : Int32)))]) dX12_readLiteral_111 rfl (Nat.le_of_ble_eq_true rfl) rfl ?_
                      refine g_aload_n dX12_readLiteral_112 rfl rfl ?_
                      refine g_iconst (v := (1 : Int32)) dX12_readLiteral_113 (by decide) ?_
                      obtain ⟨q698, e699, h⟩ := z_bd h
                      refine g_callV (a := 137) (as := [.int (1 : Int32)]) (rest := []) (c := mX12_must) (k1 := 2) dX12_readLiteral_114 rfl rfl rfl sh_137 rfl rfl (Nat.le_of_ble_eq_true rfl) (Nat.le_of_ble_eq_true rfl) (by decide) ?_
                      refine A_X12_must e699 ?_
                      show z_G none 5 mX12_readLiteral 117 [some (.ref 139), some (.int a1), some (.int (z_tb q1.1)), some (.int (q693.1 + (6 : Int32)))] [] q698.2 Q
                      refine g_iload_n dX12_readLiteral_117 rfl rfl ?_
                      cases h
                      exact g_iret dX12_readLiteral_118 rfl rfl hq
                  · replace h := z_iff c692 h
                    refine g_iconst (v := (0 : Int32)) dX12_readLiteral_92 (by decide) ?_
                    refine g_goto (t := 111) dX12_readLiteral_93 (by decide) ?_
                    refine g_istore_n (ls' := [some (.ref 139), some (.int a1), some (.int (z_tb q1.1)), some (.int (0 : Int32))]) dX12_readLiteral_111 rfl (Nat.le_of_ble_eq_true rfl) rfl ?_
                    refine g_aload_n dX12_readLiteral_112 rfl rfl ?_
                    refine g_iconst (v := (1 : Int32)) dX12_readLiteral_113 (by decide) ?_
                    obtain ⟨q700, e701, h⟩ := z_bd h
                    refine g_callV (a := 137) (as := [.int (1 : Int32)]) (rest := []) (c := mX12_must) (k1 := 2) dX12_readLiteral_114 rfl rfl rfl sh_137 rfl rfl (Nat.le_of_ble_eq_true rfl) (Nat.le_of_ble_eq_true rfl) (by decide) ?_
                    refine A_X12_must e701 ?_
                    show z_G none 5 mX12_readLiteral 117 [some (.ref 139), some (.int a1), some (.int (z_tb q1.1)), some (.int (0 : Int32))] [] q700.2 Q
                    refine g_iload_n dX12_readLiteral_117 rfl rfl ?_
                    cases h
                    exact g_iret dX12_readLiteral_118 rfl rfl hq
      · replace h := z_ift (z_tbn.mp c470) h
        refine g_aload_n dX12_readLiteral_26 rfl rfl ?_
        refine g_iconst (v := (1 : Int32)) dX12_readLiteral_27 (by decide) ?_
        obtain ⟨q702, e703, h⟩ := z_bd h
        refine g_callV (a := 137) (as := [.int (1 : Int32)]) (rest := []) (c := mX12_must) (k1 := 2) dX12_readLiteral_28 rfl rfl rfl sh_137 rfl rfl (Nat.le_of_ble_eq_true rfl) (Nat.le_of_ble_eq_true rfl) (by decide) ?_
        refine A_X12_must e703 ?_
        show z_G none 5 mX12_readLiteral 31 [some (.ref 139), some (.int a1), some (.int (z_tb q1.1)), none] [] q702.2 Q
        refine g_aload_n dX12_readLiteral_31 rfl rfl ?_
        refine g_get (a := 137) (v := .int (q702.2.1 137 12)) dX12_readLiteral_32 f_12_212 sh_137 rfl rfl ?_
        refine g_if_ne (t := 49) dX12_readLiteral_35 (by decide) (fun c704 => ?_) (fun c704 => ?_)
        · replace h := z_iff c704 h
          refine g_aload_n dX12_readLiteral_49 rfl rfl ?_
          refine g_get (a := 137) (v := .int (q702.2.1 137 12)) dX12_readLiteral_50 f_12_212 sh_137 rfl rfl ?_
          refine g_if_ne (t := 72) dX12_readLiteral_53 (by decide) (fun c705 => ?_) (fun c705 => ?_)
          · replace h := z_iff c705 h
            refine g_iload_n dX12_readLiteral_72 rfl rfl ?_
            refine g_if_eq (t := 85) dX12_readLiteral_73 (by decide) (fun c706 => ?_) (fun c706 => ?_)
            · replace h := z_ift c706 h
              refine g_aload_n dX12_readLiteral_85 rfl rfl ?_
              refine g_get (a := 137) (v := .int (q702.2.1 137 12)) dX12_readLiteral_86 f_12_212 sh_137 rfl rfl ?_
              refine g_if_le (t := 96) dX12_readLiteral_89 (by decide) (fun c707 => ?_) (fun c707 => ?_)
              · replace h := z_ift c707 h
                refine g_aload_n dX12_readLiteral_96 rfl rfl ?_
                obtain ⟨q708, e709, h⟩ := z_bd h
                refine g_callV (a := 137) (as := []) (rest := []) (c := mX12_named) (k1 := 0) dX12_readLiteral_97 rfl rfl rfl sh_137 rfl rfl (Nat.le_of_ble_eq_true rfl) (Nat.le_of_ble_eq_true rfl) (by decide) ?_
                refine A_X12_named e709 ?_
                show z_G none 5 mX12_readLiteral 100 [some (.ref 139), some (.int a1), some (.int (z_tb q1.1)), none] [.int q708.1] q708.2 Q
                refine g_iload_n dX12_readLiteral_100 rfl rfl ?_
                refine g_if_eq (t := 109) dX12_readLiteral_101 (by decide) (fun c710 => ?_) (fun c710 => ?_)
                · replace h := z_iff (z_tb0.mp c710) h
                  refine g_iconst (v := (0 : Int32)) dX12_readLiteral_109 (by decide) ?_
                  refine g_iadd dX12_readLiteral_110 ?_
                  refine g_istore_n (ls' := [some (.ref 139), some (.int a1), some (.int (z_tb q1.1)), some (.int (q708.1 + (0 : Int32)))]) dX12_readLiteral_111 rfl (Nat.le_of_ble_eq_true rfl) rfl ?_
                  refine g_aload_n dX12_readLiteral_112 rfl rfl ?_
                  refine g_iconst (v := (1 : Int32)) dX12_readLiteral_113 (by decide) ?_
                  obtain ⟨q711, e712, h⟩ := z_bd h
                  refine g_callV (a := 137) (as := [.int (1 : Int32)]) (rest := []) (c := mX12_must) (k1 := 2) dX12_readLiteral_114 rfl rfl rfl sh_137 rfl rfl (Nat.le_of_ble_eq_true rfl) (Nat.le_of_ble_eq_true rfl) (by decide) ?_
                  refine A_X12_must e712 ?_
                  show z_G none 5 mX12_readLiteral 117 [some (.ref 139), some (.int a1), some (.int (z_tb q1.1)), some (.int (q708.1 + (0 : Int32)))] [] q711.2 Q
                  refine g_iload_n dX12_readLiteral_117 rfl rfl ?_
                  cases h
                  exact g_iret dX12_readLiteral_118 rfl rfl hq
                · replace h := z_ift (z_tbn.mp c710) h
                  refine g_bipush (v := (6 : Int32)) dX12_readLiteral_104 (by decide) ?_
                  refine g_goto (t := 110) dX12_readLiteral_106 (by decide) ?_
                  refine g_iadd dX12_readLiteral_110 ?_
                  refine g_istore_n (ls' := [some (.ref 139), some (.int a1), some (.int (z_tb q1.1)), some (.int (q708.1 + (6 : Int32)))]) dX12_readLiteral_111 rfl (Nat.le_of_ble_eq_true rfl) rfl ?_
                  refine g_aload_n dX12_readLiteral_112 rfl rfl ?_
                  refine g_iconst (v := (1 : Int32)) dX12_readLiteral_113 (by decide) ?_
                  obtain ⟨q713, e714, h⟩ := z_bd h
                  refine g_callV (a := 137) (as := [.int (1 : Int32)]) (rest := []) (c := mX12_must) (k1 := 2) dX12_readLiteral_114 rfl rfl rfl sh_137 rfl rfl (Nat.le_of_ble_eq_true rfl) (Nat.le_of_ble_eq_true rfl) (by decide) ?_
                  refine A_X12_must e714 ?_
                  show z_G none 5 mX12_readLiteral 117 [some (.ref 139), some (.int a1), some (.int (z_tb q1.1)), some (.int (q708.1 + (6 : Int32)))] [] q713.2 Q
                  refine g_iload_n dX12_readLiteral_117 rfl rfl ?_
                  cases h
                  exact g_iret dX12_readLiteral_118 rfl rfl hq
              · replace h := z_iff c707 h
                refine g_iconst (v := (0 : Int32)) dX12_readLiteral_92 (by decide) ?_
                refine g_goto (t := 111) dX12_readLiteral_93 (by decide) ?_
                refine g_istore_n (ls' := [some (.ref 139), some (.int a1), some (.int (z_tb q1.1)), some (.int (0 : Int32))]) dX12_readLiteral_111 rfl (Nat.le_of_ble_eq_true rfl) rfl ?_
                refine g_aload_n dX12_readLiteral_112 rfl rfl ?_
                refine g_iconst (v := (1 : Int32)) dX12_readLiteral_113 (by decide) ?_
                obtain ⟨q715, e716, h⟩ := z_bd h
                refine g_callV (a := 137) (as := [.int (1 : Int32)]) (rest := []) (c := mX12_must) (k1 := 2) dX12_readLiteral_114 rfl rfl rfl sh_137 rfl rfl (Nat.le_of_ble_eq_true rfl) (Nat.le_of_ble_eq_true rfl) (by decide) ?_
                refine A_X12_must e716 ?_
                show z_G none 5 mX12_readLiteral 117 [some (.ref 139), some (.int a1), some (.int (z_tb q1.1)), some (.int (0 : Int32))] [] q715.2 Q
                refine g_iload_n dX12_readLiteral_117 rfl rfl ?_
                cases h
                exact g_iret dX12_readLiteral_118 rfl rfl hq
            · replace h := z_iff c706 h
              refine g_aload_n dX12_readLiteral_76 rfl rfl ?_
              refine g_iconst (v := (5 : Int32)) dX12_readLiteral_77 (by decide) ?_
              refine g_aload_n dX12_readLiteral_78 rfl rfl ?_
              refine g_get (a := 137) (v := .int (q702.2.1 137 15)) dX12_readLiteral_79 f_12_106 sh_137 rfl rfl ?_
              obtain ⟨q717, e718, h⟩ := z_bd h
              refine g_callV (a := 137) (as := [.int (5 : Int32), .int (q702.2.1 137 15)]) (rest := []) (c := mX12_fail) (k1 := 0) dX12_readLiteral_82 rfl rfl rfl sh_137 rfl rfl (Nat.le_of_ble_eq_true rfl) (Nat.le_of_ble_eq_true rfl) (by decide) ?_
              refine A_X12_fail e718 ?_
              show z_G none 5 mX12_readLiteral 85 [some (.ref 139), some (.int a1), some (.int (z_tb q1.1)), none] [] q717.2 Q
              refine g_aload_n dX12_readLiteral_85 rfl rfl ?_
              refine g_get (a := 137) (v := .int (q717.2.1 137 12)) dX12_readLiteral_86 f_12_212 sh_137 rfl rfl ?_
              refine g_if_le (t := 96) dX12_readLiteral_89 (by decide) (fun c719 => ?_) (fun c719 => ?_)
              · replace h := z_ift c719 h
                refine g_aload_n dX12_readLiteral_96 rfl rfl ?_
                obtain ⟨q720, e721, h⟩ := z_bd h
                refine g_callV (a := 137) (as := []) (rest := []) (c := mX12_named) (k1 := 0) dX12_readLiteral_97 rfl rfl rfl sh_137 rfl rfl (Nat.le_of_ble_eq_true rfl) (Nat.le_of_ble_eq_true rfl) (by decide) ?_
                refine A_X12_named e721 ?_
                show z_G none 5 mX12_readLiteral 100 [some (.ref 139), some (.int a1), some (.int (z_tb q1.1)), none] [.int q720.1] q720.2 Q
                refine g_iload_n dX12_readLiteral_100 rfl rfl ?_
                refine g_if_eq (t := 109) dX12_readLiteral_101 (by decide) (fun c722 => ?_) (fun c722 => ?_)
                · replace h := z_iff (z_tb0.mp c722) h
                  refine g_iconst (v := (0 : Int32)) dX12_readLiteral_109 (by decide) ?_
                  refine g_iadd dX12_readLiteral_110 ?_
                  refine g_istore_n (ls' := [some (.ref 139), some (.int a1), some (.int (z_tb q1.1)), some (.int (q720.1 + (0 : Int32)))]) dX12_readLiteral_111 rfl (Nat.le_of_ble_eq_true rfl) rfl ?_
                  refine g_aload_n dX12_readLiteral_112 rfl rfl ?_
                  refine g_iconst (v := (1 : Int32)) dX12_readLiteral_113 (by decide) ?_
                  obtain ⟨q723, e724, h⟩ := z_bd h
                  refine g_callV (a := 137) (as := [.int (1 : Int32)]) (rest := []) (c := mX12_must) (k1 := 2) dX12_readLiteral_114 rfl rfl rfl sh_137 rfl rfl (Nat.le_of_ble_eq_true rfl) (Nat.le_of_ble_eq_true rfl) (by decide) ?_
                  refine A_X12_must e724 ?_
                  show z_G none 5 mX12_readLiteral 117 [some (.ref 139), some (.int a1), some (.int (z_tb q1.1)), some (.int (q720.1 + (0 : Int32)))] [] q723.2 Q
                  refine g_iload_n dX12_readLiteral_117 rfl rfl ?_
                  cases h
                  exact g_iret dX12_readLiteral_118 rfl rfl hq
                · replace h := z_ift (z_tbn.mp c722) h
                  refine g_bipush (v := (6 : Int32)) dX12_readLiteral_104 (by decide) ?_
                  refine g_goto (t := 110) dX12_readLiteral_106 (by decide) ?_
                  refine g_iadd dX12_readLiteral_110 ?_
                  refine g_istore_n (ls' := [some (.ref 139), some (.int a1), some (.int (z_tb q1.1)), some (.int (q720.1 + (6 : Int32)))]) dX12_readLiteral_111 rfl (Nat.le_of_ble_eq_true rfl) rfl ?_
                  refine g_aload_n dX12_readLiteral_112 rfl rfl ?_
                  refine g_iconst (v := (1 : Int32)) dX12_readLiteral_113 (by decide) ?_
                  obtain ⟨q725, e726, h⟩ := z_bd h
                  refine g_callV (a := 137) (as := [.int (1 : Int32)]) (rest := []) (c := mX12_must) (k1 := 2) dX12_readLiteral_114 rfl rfl rfl sh_137 rfl rfl (Nat.le_of_ble_eq_true rfl) (Nat.le_of_ble_eq_true rfl) (by decide) ?_
                  refine A_X12_must e726 ?_
                  show z_G none 5 mX12_readLiteral 117 [some (.ref 139), some (.int a1), some (.int (z_tb q1.1)), some (.int (q720.1 + (6 : Int32)))] [] q725.2 Q
                  refine g_iload_n dX12_readLiteral_117 rfl rfl ?_
                  cases h
                  exact g_iret dX12_readLiteral_118 rfl rfl hq
              · replace h := z_iff c719 h
                refine g_iconst (v := (0 : Int32)) dX12_readLiteral_92 (by decide) ?_
                refine g_goto (t := 111) dX12_readLiteral_93 (by decide) ?_
                refine g_istore_n (ls' := [some (.ref 139), some (.int a1), some (.int (z_tb q1.1)), some (.int (0 : Int32))]) dX12_readLiteral_111 rfl (Nat.le_of_ble_eq_true rfl) rfl ?_
                refine g_aload_n dX12_readLiteral_112 rfl rfl ?_
                refine g_iconst (v := (1 : Int32)) dX12_readLiteral_113 (by decide) ?_
                obtain ⟨q727, e728, h⟩ := z_bd h
                refine g_callV (a := 137) (as := [.int (1 : Int32)]) (rest := []) (c := mX12_must) (k1 := 2) dX12_readLiteral_114 rfl rfl rfl sh_137 rfl rfl (Nat.le_of_ble_eq_true rfl) (Nat.le_of_ble_eq_true rfl) (by decide) ?_
                refine A_X12_must e728 ?_
                show z_G none 5 mX12_readLiteral 117 [some (.ref 139), some (.int a1), some (.int (z_tb q1.1)), some (.int (0 : Int32))] [] q727.2 Q
                refine g_iload_n dX12_readLiteral_117 rfl rfl ?_
                cases h
                exact g_iret dX12_readLiteral_118 rfl rfl hq
          · replace h := z_ift c705 h
            refine g_aload_n dX12_readLiteral_56 rfl rfl ?_
            obtain ⟨q729, e730, h⟩ := z_bd h
            refine g_callV (a := 137) (as := []) (rest := []) (c := mX12_named) (k1 := 0) dX12_readLiteral_57 rfl rfl rfl sh_137 rfl rfl (Nat.le_of_ble_eq_true rfl) (Nat.le_of_ble_eq_true rfl) (by decide) ?_
            refine A_X12_named e730 ?_
            show z_G none 5 mX12_readLiteral 60 [some (.ref 139), some (.int a1), some (.int (z_tb q1.1)), none] [.int q729.1] q729.2 Q
            refine g_if_ge (t := 72) dX12_readLiteral_60 (by decide) (fun c731 => ?_) (fun c731 => ?_)
            · replace h := z_ift c731 h
              refine g_iload_n dX12_readLiteral_72 rfl rfl ?_
              refine g_if_eq (t := 85) dX12_readLiteral_73 (by decide) (fun c732 => ?_) (fun c732 => ?_)
              · replace h := z_ift c732 h
                refine g_aload_n dX12_readLiteral_85 rfl rfl ?_
                refine g_get (a := 137) (v := .int (q729.2.1 137 12)) dX12_readLiteral_86 f_12_212 sh_137 rfl rfl ?_
                refine g_if_le (t := 96) dX12_readLiteral_89 (by decide) (fun c733 => ?_) (fun c733 => ?_)
                · replace h := z_ift c733 h
                  refine g_aload_n dX12_readLiteral_96 rfl rfl ?_
                  obtain ⟨q734, e735, h⟩ := z_bd h
                  refine g_callV (a := 137) (as := []) (rest := []) (c := mX12_named) (k1 := 0) dX12_readLiteral_97 rfl rfl rfl sh_137 rfl rfl (Nat.le_of_ble_eq_true rfl) (Nat.le_of_ble_eq_true rfl) (by decide) ?_
                  refine A_X12_named e735 ?_
                  show z_G none 5 mX12_readLiteral 100 [some (.ref 139), some (.int a1), some (.int (z_tb q1.1)), none] [.int q734.1] q734.2 Q
                  refine g_iload_n dX12_readLiteral_100 rfl rfl ?_
                  refine g_if_eq (t := 109) dX12_readLiteral_101 (by decide) (fun c736 => ?_) (fun c736 => ?_)
                  · replace h := z_iff (z_tb0.mp c736) h
                    refine g_iconst (v := (0 : Int32)) dX12_readLiteral_109 (by decide) ?_
                    refine g_iadd dX12_readLiteral_110 ?_
                    refine g_istore_n (ls' := [some (.ref 139), some (.int a1), some (.int (z_tb q1.1)), some (.int (q734.1 + (0 : Int32)))]) dX12_readLiteral_111 rfl (Nat.le_of_ble_eq_true rfl) rfl ?_
                    refine g_aload_n dX12_readLiteral_112 rfl rfl ?_
                    refine g_iconst (v := (1 : Int32)) dX12_readLiteral_113 (by decide) ?_
                    obtain ⟨q737, e738, h⟩ := z_bd h
                    refine g_callV (a := 137) (as := [.int (1 : Int32)]) (rest := []) (c := mX12_must) (k1 := 2) dX12_readLiteral_114 rfl rfl rfl sh_137 rfl rfl (Nat.le_of_ble_eq_true rfl) (Nat.le_of_ble_eq_true rfl) (by decide) ?_
                    refine A_X12_must e738 ?_
                    show z_G none 5 mX12_readLiteral 117 [some (.ref 139), some (.int a1), some (.int (z_tb q1.1)), some (.int (q734.1 + (0 : Int32)))] [] q737.2 Q
                    refine g_iload_n dX12_readLiteral_117 rfl rfl ?_
                    cases h
                    exact g_iret dX12_readLiteral_118 rfl rfl hq
                  · replace h := z_ift (z_tbn.mp c736) h
                    refine g_bipush (v := (6 : Int32)) dX12_readLiteral_104 (by decide) ?_
                    refine g_goto (t := 110) dX12_readLiteral_106 (by decide) ?_
                    refine g_iadd dX12_readLiteral_110 ?_
                    refine g_istore_n (ls' := [some (.ref 139), some (.int a1), some (.int (z_tb q1.1)), some (.int (q734.1 + (6 : Int32)))]) dX12_readLiteral_111 rfl (Nat.le_of_ble_eq_true rfl) rfl ?_
                    refine g_aload_n dX12_readLiteral_112 rfl rfl ?_
                    refine g_iconst (v := (1 : Int32)) dX12_readLiteral_113 (by decide) ?_
                    obtain ⟨q739, e740, h⟩ := z_bd h
                    refine g_callV (a := 137) (as := [.int (1 : Int32)]) (rest := []) (c := mX12_must) (k1 := 2) dX12_readLiteral_114 rfl rfl rfl sh_137 rfl rfl (Nat.le_of_ble_eq_true rfl) (Nat.le_of_ble_eq_true rfl) (by decide) ?_
                    refine A_X12_must e740 ?_
                    show z_G none 5 mX12_readLiteral 117 [some (.ref 139), some (.int a1), some (.int (z_tb q1.1)), some (.int (q734.1 + (6 : Int32)))] [] q739.2 Q
                    refine g_iload_n dX12_readLiteral_117 rfl rfl ?_
                    cases h
                    exact g_iret dX12_readLiteral_118 rfl rfl hq
                · replace h := z_iff c733 h
                  refine g_iconst (v := (0 : Int32)) dX12_readLiteral_92 (by decide) ?_
                  refine g_goto (t := 111) dX12_readLiteral_93 (by decide) ?_
                  refine g_istore_n (ls' := [some (.ref 139), some (.int a1), some (.int (z_tb q1.1)), some (.int (0 : Int32))]) dX12_readLiteral_111 rfl (Nat.le_of_ble_eq_true rfl) rfl ?_
                  refine g_aload_n dX12_readLiteral_112 rfl rfl ?_
                  refine g_iconst (v := (1 : Int32)) dX12_readLiteral_113 (by decide) ?_
                  obtain ⟨q741, e742, h⟩ := z_bd h
                  refine g_callV (a := 137) (as := [.int (1 : Int32)]) (rest := []) (c := mX12_must) (k1 := 2) dX12_readLiteral_114 rfl rfl rfl sh_137 rfl rfl (Nat.le_of_ble_eq_true rfl) (Nat.le_of_ble_eq_true rfl) (by decide) ?_
                  refine A_X12_must e742 ?_
                  show z_G none 5 mX12_readLiteral 117 [some (.ref 139), some (.int a1), some (.int (z_tb q1.1)), some (.int (0 : Int32))] [] q741.2 Q
                  refine g_iload_n dX12_readLiteral_117 rfl rfl ?_
                  cases h
                  exact g_iret dX12_readLiteral_118 rfl rfl hq
              · replace h := z_iff c732 h
                refine g_aload_n dX12_readLiteral_76 rfl rfl ?_
                refine g_iconst (v := (5 : Int32)) dX12_readLiteral_77 (by decide) ?_
                refine g_aload_n dX12_readLiteral_78 rfl rfl ?_
                refine g_get (a := 137) (v := .int (q729.2.1 137 15)) dX12_readLiteral_79 f_12_106 sh_137 rfl rfl ?_
                obtain ⟨q743, e744, h⟩ := z_bd h
                refine g_callV (a := 137) (as := [.int (5 : Int32), .int (q729.2.1 137 15)]) (rest := []) (c := mX12_fail) (k1 := 0) dX12_readLiteral_82 rfl rfl rfl sh_137 rfl rfl (Nat.le_of_ble_eq_true rfl) (Nat.le_of_ble_eq_true rfl) (by decide) ?_
                refine A_X12_fail e744 ?_
                show z_G none 5 mX12_readLiteral 85 [some (.ref 139), some (.int a1), some (.int (z_tb q1.1)), none] [] q743.2 Q
                refine g_aload_n dX12_readLiteral_85 rfl rfl ?_
                refine g_get (a := 137) (v := .int (q743.2.1 137 12)) dX12_readLiteral_86 f_12_212 sh_137 rfl rfl ?_
                refine g_if_le (t := 96) dX12_readLiteral_89 (by decide) (fun c745 => ?_) (fun c745 => ?_)
                · replace h := z_ift c745 h
                  refine g_aload_n dX12_readLiteral_96 rfl rfl ?_
                  obtain ⟨q746, e747, h⟩ := z_bd h
                  refine g_callV (a := 137) (as := []) (rest := []) (c := mX12_named) (k1 := 0) dX12_readLiteral_97 rfl rfl rfl sh_137 rfl rfl (Nat.le_of_ble_eq_true rfl) (Nat.le_of_ble_eq_true rfl) (by decide) ?_
                  refine A_X12_named e747 ?_
                  show z_G none 5 mX12_readLiteral 100 [some (.ref 139), some (.int a1), some (.int (z_tb q1.1)), none] [.int q746.1] q746.2 Q
                  refine g_iload_n dX12_readLiteral_100 rfl rfl ?_
                  refine g_if_eq (t := 109) dX12_readLiteral_101 (by decide) (fun c748 => ?_) (fun c748 => ?_)
                  · replace h := z_iff (z_tb0.mp c748) h
                    refine g_iconst (v := (0 : Int32)) dX12_readLiteral_109 (by decide) ?_
                    refine g_iadd dX12_readLiteral_110 ?_
                    refine g_istore_n (ls' := [some (.ref 139), some (.int a1), some (.int (z_tb q1.1)), some (.int (q746.1 + (0 : Int32)))]) dX12_readLiteral_111 rfl (Nat.le_of_ble_eq_true rfl) rfl ?_
                    refine g_aload_n dX12_readLiteral_112 rfl rfl ?_
                    refine g_iconst (v := (1 : Int32)) dX12_readLiteral_113 (by decide) ?_
                    obtain ⟨q749, e750, h⟩ := z_bd h
                    refine g_callV (a := 137) (as := [.int (1 : Int32)]) (rest := []) (c := mX12_must) (k1 := 2) dX12_readLiteral_114 rfl rfl rfl sh_137 rfl rfl (Nat.le_of_ble_eq_true rfl) (Nat.le_of_ble_eq_true rfl) (by decide) ?_
                    refine A_X12_must e750 ?_
                    show z_G none 5 mX12_readLiteral 117 [some (.ref 139), some (.int a1), some (.int (z_tb q1.1)), some (.int (q746.1 + (0 : Int32)))] [] q749.2 Q
                    refine g_iload_n dX12_readLiteral_117 rfl rfl ?_
                    cases h
                    exact g_iret dX12_readLiteral_118 rfl rfl hq
                  · replace h := z_ift (z_tbn.mp c748) h
                    refine g_bipush (v := (6 : Int32)) dX12_readLiteral_104 (by decide) ?_
                    refine g_goto (t := 110) dX12_readLiteral_106 (by decide) ?_
                    refine g_iadd dX12_readLiteral_110 ?_
                    refine g_istore_n (ls' := [some (.ref 139), some (.int a1), some (.int (z_tb q1.1)), some (.int (q746.1 + (6 : Int32)))]) dX12_readLiteral_111 rfl (Nat.le_of_ble_eq_true rfl) rfl ?_
                    refine g_aload_n dX12_readLiteral_112 rfl rfl ?_
                    refine g_iconst (v := (1 : Int32)) dX12_readLiteral_113 (by decide) ?_
                    obtain ⟨q751, e752, h⟩ := z_bd h
                    refine g_callV (a := 137) (as := [.int (1 : Int32)]) (rest := []) (c := mX12_must) (k1 := 2) dX12_readLiteral_114 rfl rfl rfl sh_137 rfl rfl (Nat.le_of_ble_eq_true rfl) (Nat.le_of_ble_eq_true rfl) (by decide) ?_
                    refine A_X12_must e752 ?_
                    show z_G none 5 mX12_readLiteral 117 [some (.ref 139), some (.int a1), some (.int (z_tb q1.1)), some (.int (q746.1 + (6 : Int32)))] [] q751.2 Q
                    refine g_iload_n dX12_readLiteral_117 rfl rfl ?_
                    cases h
                    exact g_iret dX12_readLiteral_118 rfl rfl hq
                · replace h := z_iff c745 h
                  refine g_iconst (v := (0 : Int32)) dX12_readLiteral_92 (by decide) ?_
                  refine g_goto (t := 111) dX12_readLiteral_93 (by decide) ?_
                  refine g_istore_n (ls' := [some (.ref 139), some (.int a1), some (.int (z_tb q1.1)), some (.int (0 : Int32))]) dX12_readLiteral_111 rfl (Nat.le_of_ble_eq_true rfl) rfl ?_
                  refine g_aload_n dX12_readLiteral_112 rfl rfl ?_
                  refine g_iconst (v := (1 : Int32)) dX12_readLiteral_113 (by decide) ?_
                  obtain ⟨q753, e754, h⟩ := z_bd h
                  refine g_callV (a := 137) (as := [.int (1 : Int32)]) (rest := []) (c := mX12_must) (k1 := 2) dX12_readLiteral_114 rfl rfl rfl sh_137 rfl rfl (Nat.le_of_ble_eq_true rfl) (Nat.le_of_ble_eq_true rfl) (by decide) ?_
                  refine A_X12_must e754 ?_
                  show z_G none 5 mX12_readLiteral 117 [some (.ref 139), some (.int a1), some (.int (z_tb q1.1)), some (.int (0 : Int32))] [] q753.2 Q
                  refine g_iload_n dX12_readLiteral_117 rfl rfl ?_
                  cases h
                  exact g_iret dX12_readLiteral_118 rfl rfl hq
            · replace h := z_iff c731 h
              refine g_aload_n dX12_readLiteral_63 rfl rfl ?_
              refine g_iconst (v := (3 : Int32)) dX12_readLiteral_64 (by decide) ?_
              refine g_aload_n dX12_readLiteral_65 rfl rfl ?_
              refine g_get (a := 137) (v := .int (q729.2.1 137 15)) dX12_readLiteral_66 f_12_106 sh_137 rfl rfl ?_
              obtain ⟨q755, e756, h⟩ := z_bd h
              refine g_callV (a := 137) (as := [.int (3 : Int32), .int (q729.2.1 137 15)]) (rest := []) (c := mX12_fail) (k1 := 0) dX12_readLiteral_69 rfl rfl rfl sh_137 rfl rfl (Nat.le_of_ble_eq_true rfl) (Nat.le_of_ble_eq_true rfl) (by decide) ?_
              refine A_X12_fail e756 ?_
              show z_G none 5 mX12_readLiteral 72 [some (.ref 139), some (.int a1), some (.int (z_tb q1.1)), none] [] q755.2 Q
              refine g_iload_n dX12_readLiteral_72 rfl rfl ?_
              refine g_if_eq (t := 85) dX12_readLiteral_73 (by decide) (fun c757 => ?_) (fun c757 => ?_)
              · replace h := z_ift c757 h
                refine g_aload_n dX12_readLiteral_85 rfl rfl ?_
                refine g_get (a := 137) (v := .int (q755.2.1 137 12)) dX12_readLiteral_86 f_12_212 sh_137 rfl rfl ?_
                refine g_if_le (t := 96) dX12_readLiteral_89 (by decide) (fun c758 => ?_) (fun c758 => ?_)
                · replace h := z_ift c758 h
                  refine g_aload_n dX12_readLiteral_96 rfl rfl ?_
                  obtain ⟨q759, e760, h⟩ := z_bd h
                  refine g_callV (a := 137) (as := []) (rest := []) (c := mX12_named) (k1 := 0) dX12_readLiteral_97 rfl rfl rfl sh_137 rfl rfl (Nat.le_of_ble_eq_true rfl) (Nat.le_of_ble_eq_true rfl) (by decide) ?_
                  refine A_X12_named e760 ?_
                  show z_G none 5 mX12_readLiteral 100 [some (.ref 139), some (.int a1), some (.int (z_tb q1.1)), none] [.int q759.1] q759.2 Q
                  refine g_iload_n dX12_readLiteral_100 rfl rfl ?_
                  refine g_if_eq (t := 109) dX12_readLiteral_101 (by decide) (fun c761 => ?_) (fun c761 => ?_)
                  · replace h := z_iff (z_tb0.mp c761) h
                    refine g_iconst (v := (0 : Int32)) dX12_readLiteral_109 (by decide) ?_
                    refine g_iadd dX12_readLiteral_110 ?_
                    refine g_istore_n (ls' := [some (.ref 139), some (.int a1), some (.int (z_tb q1.1)), some (.int (q759.1 + (0 : Int32)))]) dX12_readLiteral_111 rfl (Nat.le_of_ble_eq_true rfl) rfl ?_
                    refine g_aload_n dX12_readLiteral_112 rfl rfl ?_
                    refine g_iconst (v := (1 : Int32)) dX12_readLiteral_113 (by decide) ?_
                    obtain ⟨q762, e763, h⟩ := z_bd h
                    refine g_callV (a := 137) (as := [.int (1 : Int32)]) (rest := []) (c := mX12_must) (k1 := 2) dX12_readLiteral_114 rfl rfl rfl sh_137 rfl rfl (Nat.le_of_ble_eq_true rfl) (Nat.le_of_ble_eq_true rfl) (by decide) ?_
                    refine A_X12_must e763 ?_
                    show z_G none 5 mX12_readLiteral 117 [some (.ref 139), some (.int a1), some (.int (z_tb q1.1)), some (.int (q759.1 + (0 : Int32)))] [] q762.2 Q
                    refine g_iload_n dX12_readLiteral_117 rfl rfl ?_
                    cases h
                    exact g_iret dX12_readLiteral_118 rfl rfl hq
                  · replace h := z_ift (z_tbn.mp c761) h
                    refine g_bipush (v := (6 : Int32)) dX12_readLiteral_104 (by decide) ?_
                    refine g_goto (t := 110) dX12_readLiteral_106 (by decide) ?_
                    refine g_iadd dX12_readLiteral_110 ?_
                    refine g_istore_n (ls' := [some (.ref 139), some (.int a1), some (.int (z_tb q1.1)), some (.int (q759.1 + (6 : Int32)))]) dX12_readLiteral_111 rfl (Nat.le_of_ble_eq_true rfl) rfl ?_
                    refine g_aload_n dX12_readLiteral_112 rfl rfl ?_
                    refine g_iconst (v := (1 : Int32)) dX12_readLiteral_113 (by decide) ?_
                    obtain ⟨q764, e765, h⟩ := z_bd h
                    refine g_callV (a := 137) (as := [.int (1 : Int32)]) (rest := []) (c := mX12_must) (k1 := 2) dX12_readLiteral_114 rfl rfl rfl sh_137 rfl rfl (Nat.le_of_ble_eq_true rfl) (Nat.le_of_ble_eq_true rfl) (by decide) ?_
                    refine A_X12_must e765 ?_
                    show z_G none 5 mX12_readLiteral 117 [some (.ref 139), some (.int a1), some (.int (z_tb q1.1)), some (.int (q759.1 + (6 : Int32)))] [] q764.2 Q
                    refine g_iload_n dX12_readLiteral_117 rfl rfl ?_
                    cases h
                    exact g_iret dX12_readLiteral_118 rfl rfl hq
                · replace h := z_iff c758 h
                  refine g_iconst (v := (0 : Int32)) dX12_readLiteral_92 (by decide) ?_
                  refine g_goto (t := 111) dX12_readLiteral_93 (by decide) ?_
                  refine g_istore_n (ls' := [some (.ref 139), some (.int a1), some (.int (z_tb q1.1)), some (.int (0 : Int32))]) dX12_readLiteral_111 rfl (Nat.le_of_ble_eq_true rfl) rfl ?_
                  refine g_aload_n dX12_readLiteral_112 rfl rfl ?_
                  refine g_iconst (v := (1 : Int32)) dX12_readLiteral_113 (by decide) ?_
                  obtain ⟨q766, e767, h⟩ := z_bd h
                  refine g_callV (a := 137) (as := [.int (1 : Int32)]) (rest := []) (c := mX12_must) (k1 := 2) dX12_readLiteral_114 rfl rfl rfl sh_137 rfl rfl (Nat.le_of_ble_eq_true rfl) (Nat.le_of_ble_eq_true rfl) (by decide) ?_
                  refine A_X12_must e767 ?_
                  show z_G none 5 mX12_readLiteral 117 [some (.ref 139), some (.int a1), some (.int (z_tb q1.1)), some (.int (0 : Int32))] [] q766.2 Q
                  refine g_iload_n dX12_readLiteral_117 rfl rfl ?_
                  cases h
                  exact g_iret dX12_readLiteral_118 rfl rfl hq
              · replace h := z_iff c757 h
                refine g_aload_n dX12_readLiteral_76 rfl rfl ?_
                refine g_iconst (v := (5 : Int32)) dX12_readLiteral_77 (by decide) ?_
                refine g_aload_n dX12_readLiteral_78 rfl rfl ?_
                refine g_get (a := 137) (v := .int (q755.2.1 137 15)) dX12_readLiteral_79 f_12_106 sh_137 rfl rfl ?_
                obtain ⟨q768, e769, h⟩ := z_bd h
                refine g_callV (a := 137) (as := [.int (5 : Int32), .int (q755.2.1 137 15)]) (rest := []) (c := mX12_fail) (k1 := 0) dX12_readLiteral_82 rfl rfl rfl sh_137 rfl rfl (Nat.le_of_ble_eq_true rfl) (Nat.le_of_ble_eq_true rfl) (by decide) ?_
                refine A_X12_fail e769 ?_
                show z_G none 5 mX12_readLiteral 85 [some (.ref 139), some (.int a1), some (.int (z_tb q1.1)), none] [] q768.2 Q
                refine g_aload_n dX12_readLiteral_85 rfl rfl ?_
                refine g_get (a := 137) (v := .int (q768.2.1 137 12)) dX12_readLiteral_86 f_12_212 sh_137 rfl rfl ?_
                refine g_if_le (t := 96) dX12_readLiteral_89 (by decide) (fun c770 => ?_) (fun c770 => ?_)
                · replace h := z_ift c770 h
                  refine g_aload_n dX12_readLiteral_96 rfl rfl ?_
                  obtain ⟨q771, e772, h⟩ := z_bd h
                  refine g_callV (a := 137) (as := []) (rest := []) (c := mX12_named) (k1 := 0) dX12_readLiteral_97 rfl rfl rfl sh_137 rfl rfl (Nat.le_of_ble_eq_true rfl) (Nat.le_of_ble_eq_true rfl) (by decide) ?_
                  refine A_X12_named e772 ?_
                  show z_G none 5 mX12_readLiteral 100 [some (.ref 139), some (.int a1), some (.int (z_tb q1.1)), none] [.int q771.1] q771.2 Q
                  refine g_iload_n dX12_readLiteral_100 rfl rfl ?_
                  refine g_if_eq (t := 109) dX12_readLiteral_101 (by decide) (fun c773 => ?_) (fun c773 => ?_)
                  · replace h := z_iff (z_tb0.mp c773) h
                    refine g_iconst (v := (0 : Int32)) dX12_readLiteral_109 (by decide) ?_
                    refine g_iadd dX12_readLiteral_110 ?_
                    refine g_istore_n (ls' := [some (.ref 139), some (.int a1), some (.int (z_tb q1.1)), some (.int (q771.1 + (0 : Int32)))]) dX12_readLiteral_111 rfl (Nat.le_of_ble_eq_true rfl) rfl ?_
                    refine g_aload_n dX12_readLiteral_112 rfl rfl ?_
                    refine g_iconst (v := (1 : Int32)) dX12_readLiteral_113 (by decide) ?_
                    obtain ⟨q774, e775, h⟩ := z_bd h
                    refine g_callV (a := 137) (as := [.int (1 : Int32)]) (rest := []) (c := mX12_must) (k1 := 2) dX12_readLiteral_114 rfl rfl rfl sh_137 rfl rfl (Nat.le_of_ble_eq_true rfl) (Nat.le_of_ble_eq_true rfl) (by decide) ?_
                    refine A_X12_must e775 ?_
                    show z_G none 5 mX12_readLiteral 117 [some (.ref 139), some (.int a1), some (.int (z_tb q1.1)), some (.int (q771.1 + (0 : Int32)))] [] q774.2 Q
                    refine g_iload_n dX12_readLiteral_117 rfl rfl ?_
                    cases h
                    exact g_iret dX12_readLiteral_118 rfl rfl hq
                  · replace h := z_ift (z_tbn.mp c773) h
                    refine g_bipush (v := (6 : Int32)) dX12_readLiteral_104 (by decide) ?_
                    refine g_goto (t := 110) dX12_readLiteral_106 (by decide) ?_
                    refine g_iadd dX12_readLiteral_110 ?_
                    refine g_istore_n (ls' := [some (.ref 139), some (.int a1), some (.int (z_tb q1.1)), some (.int (q771.1 + (6 : Int32)))]) dX12_readLiteral_111 rfl (Nat.le_of_ble_eq_true rfl) rfl ?_
                    refine g_aload_n dX12_readLiteral_112 rfl rfl ?_
                    refine g_iconst (v := (1 : Int32)) dX12_readLiteral_113 (by decide) ?_
                    obtain ⟨q776, e777, h⟩ := z_bd h
                    refine g_callV (a := 137) (as := [.int (1 : Int32)]) (rest := []) (c := mX12_must) (k1 := 2) dX12_readLiteral_114 rfl rfl rfl sh_137 rfl rfl (Nat.le_of_ble_eq_true rfl) (Nat.le_of_ble_eq_true rfl) (by decide) ?_
                    refine A_X12_must e777 ?_
                    show z_G none 5 mX12_readLiteral 117 [some (.ref 139), some (.int a1), some (.int (z_tb q1.1)), some (.int (q771.1 + (6 : Int32)))] [] q776.2 Q
                    refine g_iload_n dX12_readLiteral_117 rfl rfl ?_
                    cases h
                    exact g_iret dX12_readLiteral_118 rfl rfl hq
                · replace h := z_iff c770 h
                  refine g_iconst (v := (0 : Int32)) dX12_readLiteral_92 (by decide) ?_
                  refine g_goto (t := 111) dX12_readLiteral_93 (by decide) ?_
                  refine g_istore_n (ls' := [some (.ref 139), some (.int a1), some (.int (z_tb q1.1)), some (.int (0 : Int32))]) dX12_readLiteral_111 rfl (Nat.le_of_ble_eq_true rfl) rfl ?_
                  refine g_aload_n dX12_readLiteral_112 rfl rfl ?_
                  refine g_iconst (v := (1 : Int32)) dX12_readLiteral_113 (by decide) ?_
                  obtain ⟨q778, e779, h⟩ := z_bd h
                  refine g_callV (a := 137) (as := [.int (1 : Int32)]) (rest := []) (c := mX12_must) (k1 := 2) dX12_readLiteral_114 rfl rfl rfl sh_137 rfl rfl (Nat.le_of_ble_eq_true rfl) (Nat.le_of_ble_eq_true rfl) (by decide) ?_
                  refine A_X12_must e779 ?_
                  show z_G none 5 mX12_readLiteral 117 [some (.ref 139), some (.int a1), some (.int (z_tb q1.1)), some (.int (0 : Int32))] [] q778.2 Q
                  refine g_iload_n dX12_readLiteral_117 rfl rfl ?_
                  cases h
                  exact g_iret dX12_readLiteral_118 rfl rfl hq
        · replace h := z_ift c704 h
          refine g_aload_n dX12_readLiteral_38 rfl rfl ?_
          obtain ⟨q780, e781, h⟩ := z_bd h
          refine g_callV (a := 137) (as := []) (rest := []) (c := mX12_isName) (k1 := 4) dX12_readLiteral_39 rfl rfl rfl sh_137 rfl rfl (Nat.le_of_ble_eq_true rfl) (Nat.le_of_ble_eq_true rfl) (by decide) ?_
          refine A_X12_isName e781 ?_
          show z_G none 5 mX12_readLiteral 42 [some (.ref 139), some (.int a1), some (.int (z_tb q1.1)), none] [.int (z_tb q780.1)] q780.2 Q
          refine g_if_ne (t := 49) dX12_readLiteral_42 (by decide) (fun c782 => ?_) (fun c782 => ?_)
          · replace h := z_ift (z_tbn.mp c782) h
            refine g_aload_n dX12_readLiteral_49 rfl rfl ?_
            refine g_get (a := 137) (v := .int (q780.2.1 137 12)) dX12_readLiteral_50 f_12_212 sh_137 rfl rfl ?_
            refine g_if_ne (t := 72) dX12_readLiteral_53 (by decide) (fun c783 => ?_) (fun c783 => ?_)
            · replace h := z_iff c783 h
              refine g_iload_n dX12_readLiteral_72 rfl rfl ?_
              refine g_if_eq (t := 85) dX12_readLiteral_73 (by decide) (fun c784 => ?_) (fun c784 => ?_)
              · replace h := z_ift c784 h
                refine g_aload_n dX12_readLiteral_85 rfl rfl ?_
                refine g_get (a := 137) (v := .int (q780.2.1 137 12)) dX12_readLiteral_86 f_12_212 sh_137 rfl rfl ?_
                refine g_if_le (t := 96) dX12_readLiteral_89 (by decide) (fun c785 => ?_) (fun c785 => ?_)
                · replace h := z_ift c785 h
                  refine g_aload_n dX12_readLiteral_96 rfl rfl ?_
                  obtain ⟨q786, e787, h⟩ := z_bd h
                  refine g_callV (a := 137) (as := []) (rest := []) (c := mX12_named) (k1 := 0) dX12_readLiteral_97 rfl rfl rfl sh_137 rfl rfl (Nat.le_of_ble_eq_true rfl) (Nat.le_of_ble_eq_true rfl) (by decide) ?_
                  refine A_X12_named e787 ?_
                  show z_G none 5 mX12_readLiteral 100 [some (.ref 139), some (.int a1), some (.int (z_tb q1.1)), none] [.int q786.1] q786.2 Q
                  refine g_iload_n dX12_readLiteral_100 rfl rfl ?_
                  refine g_if_eq (t := 109) dX12_readLiteral_101 (by decide) (fun c788 => ?_) (fun c788 => ?_)
                  · replace h := z_iff (z_tb0.mp c788) h
                    refine g_iconst (v := (0 : Int32)) dX12_readLiteral_109 (by decide) ?_
                    refine g_iadd dX12_readLiteral_110 ?_
                    refine g_istore_n (ls' := [some (.ref 139), some (.int a1), some (.int (z_tb q1.1)), some (.int (q786.1 + (0 : Int32)))]) dX12_readLiteral_111 rfl (Nat.le_of_ble_eq_true rfl) rfl ?_
                    refine g_aload_n dX12_readLiteral_112 rfl rfl ?_
                    refine g_iconst (v := (1 : Int32)) dX12_readLiteral_113 (by decide) ?_
                    obtain ⟨q789, e790, h⟩ := z_bd h
                    refine g_callV (a := 137) (as := [.int (1 : Int32)]) (rest := []) (c := mX12_must) (k1 := 2) dX12_readLiteral_114 rfl rfl rfl sh_137 rfl rfl (Nat.le_of_ble_eq_true rfl) (Nat.le_of_ble_eq_true rfl) (by decide) ?_
                    refine A_X12_must e790 ?_
                    show z_G none 5 mX12_readLiteral 117 [some (.ref 139), some (.int a1), some (.int (z_tb q1.1)), some (.int (q786.1 + (0 : Int32)))] [] q789.2 Q
                    refine g_iload_n dX12_readLiteral_117 rfl rfl ?_
                    cases h
                    exact g_iret dX12_readLiteral_118 rfl rfl hq
                  · replace h := z_ift (z_tbn.mp c788) h
                    refine g_bipush (v := (6 : Int32)) dX12_readLiteral_104 (by decide) ?_
                    refine g_goto (t := 110) dX12_readLiteral_106 (by decide) ?_
                    refine g_iadd dX12_readLiteral_110 ?_
                    refine g_istore_n (ls' := [some (.ref 139), some (.int a1), some (.int (z_tb q1.1)), some (.int (q786.1 + (6 : Int32)))]) dX12_readLiteral_111 rfl (Nat.le_of_ble_eq_true rfl) rfl ?_
                    refine g_aload_n dX12_readLiteral_112 rfl rfl ?_
                    refine g_iconst (v := (1 : Int32)) dX12_readLiteral_113 (by decide) ?_
                    obtain ⟨q791, e792, h⟩ := z_bd h
                    refine g_callV (a := 137) (as := [.int (1 : Int32)]) (rest := []) (c := mX12_must) (k1 := 2) dX12_readLiteral_114 rfl rfl rfl sh_137 rfl rfl (Nat.le_of_ble_eq_true rfl) (Nat.le_of_ble_eq_true rfl) (by decide) ?_
                    refine A_X12_must e792 ?_
                    show z_G none 5 mX12_readLiteral 117 [some (.ref 139), some (.int a1), some (.int (z_tb q1.1)), some (.int (q786.1 + (6 : Int32)))] [] q791.2 Q
                    refine g_iload_n dX12_readLiteral_117 rfl rfl ?_
                    cases h
                    exact g_iret dX12_readLiteral_118 rfl rfl hq
                · replace h := z_iff c785 h
                  refine g_iconst (v := (0 : Int32)) dX12_readLiteral_92 (by decide) ?_
                  refine g_goto (t := 111) dX12_readLiteral_93 (by decide) ?_
                  refine g_istore_n (ls' := [some (.ref 139), some (.int a1), some (.int (z_tb q1.1)), some (.int (0 : Int32))]) dX12_readLiteral_111 rfl (Nat.le_of_ble_eq_true rfl) rfl ?_
                  refine g_aload_n dX12_readLiteral_112 rfl rfl ?_
                  refine g_iconst (v := (1 : Int32)) dX12_readLiteral_113 (by decide) ?_
                  obtain ⟨q793, e794, h⟩ := z_bd h
                  refine g_callV (a := 137) (as := [.int (1 : Int32)]) (rest := []) (c := mX12_must) (k1 := 2) dX12_readLiteral_114 rfl rfl rfl sh_137 rfl rfl (Nat.le_of_ble_eq_true rfl) (Nat.le_of_ble_eq_true rfl) (by decide) ?_
                  refine A_X12_must e794 ?_
                  show z_G none 5 mX12_readLiteral 117 [some (.ref 139), some (.int a1), some (.int (z_tb q1.1)), some (.int (0 : Int32))] [] q793.2 Q
                  refine g_iload_n dX12_readLiteral_117 rfl rfl ?_
                  cases h
                  exact g_iret dX12_readLiteral_118 rfl rfl hq
              · replace h := z_iff c784 h
                refine g_aload_n dX12_readLiteral_76 rfl rfl ?_
                refine g_iconst (v := (5 : Int32)) dX12_readLiteral_77 (by decide) ?_
                refine g_aload_n dX12_readLiteral_78 rfl rfl ?_
                refine g_get (a := 137) (v := .int (q780.2.1 137 15)) dX12_readLiteral_79 f_12_106 sh_137 rfl rfl ?_
                obtain ⟨q795, e796, h⟩ := z_bd h
                refine g_callV (a := 137) (as := [.int (5 : Int32), .int (q780.2.1 137 15)]) (rest := []) (c := mX12_fail) (k1 := 0) dX12_readLiteral_82 rfl rfl rfl sh_137 rfl rfl (Nat.le_of_ble_eq_true rfl) (Nat.le_of_ble_eq_true rfl) (by decide) ?_
                refine A_X12_fail e796 ?_
                show z_G none 5 mX12_readLiteral 85 [some (.ref 139), some (.int a1), some (.int (z_tb q1.1)), none] [] q795.2 Q
                refine g_aload_n dX12_readLiteral_85 rfl rfl ?_
                refine g_get (a := 137) (v := .int (q795.2.1 137 12)) dX12_readLiteral_86 f_12_212 sh_137 rfl rfl ?_
                refine g_if_le (t := 96) dX12_readLiteral_89 (by decide) (fun c797 => ?_) (fun c797 => ?_)
                · replace h := z_ift c797 h
                  refine g_aload_n dX12_readLiteral_96 rfl rfl ?_
                  obtain ⟨q798, e799, h⟩ := z_bd h
                  refine g_callV (a := 137) (as := []) (rest := []) (c := mX12_named) (k1 := 0) dX12_readLiteral_97 rfl rfl rfl sh_137 rfl rfl (Nat.le_of_ble_eq_true rfl) (Nat.le_of_ble_eq_true rfl) (by decide) ?_
                  refine A_X12_named e799 ?_
                  show z_G none 5 mX12_readLiteral 100 [some (.ref 139), some (.int a1), some (.int (z_tb q1.1)), none] [.int q798.1] q798.2 Q
                  refine g_iload_n dX12_readLiteral_100 rfl rfl ?_
                  refine g_if_eq (t := 109) dX12_readLiteral_101 (by decide) (fun c800 => ?_) (fun c800 => ?_)
                  · replace h := z_iff (z_tb0.mp c800) h
                    refine g_iconst (v := (0 : Int32)) dX12_readLiteral_109 (by decide) ?_
                    refine g_iadd dX12_readLiteral_110 ?_
                    refine g_istore_n (ls' := [some (.ref 139), some (.int a1), some (.int (z_tb q1.1)), some (.int (q798.1 + (0 : Int32)))]) dX12_readLiteral_111 rfl (Nat.le_of_ble_eq_true rfl) rfl ?_
                    refine g_aload_n dX12_readLiteral_112 rfl rfl ?_
                    refine g_iconst (v := (1 : Int32)) dX12_readLiteral_113 (by decide) ?_
                    obtain ⟨q801, e802, h⟩ := z_bd h
                    refine g_callV (a := 137) (as := [.int (1 : Int32)]) (rest := []) (c := mX12_must) (k1 := 2) dX12_readLiteral_114 rfl rfl rfl sh_137 rfl rfl (Nat.le_of_ble_eq_true rfl) (Nat.le_of_ble_eq_true rfl) (by decide) ?_
                    refine A_X12_must e802 ?_
                    show z_G none 5 mX12_readLiteral 117 [some (.ref 139), some (.int a1), some (.int (z_tb q1.1)), some (.int (q798.1 + (0 : Int32)))] [] q801.2 Q
                    refine g_iload_n dX12_readLiteral_117 rfl rfl ?_
                    cases h
                    exact g_iret dX12_readLiteral_118 rfl rfl hq
                  · replace h := z_ift (z_tbn.mp c800) h
                    refine g_bipush (v := (6 : Int32)) dX12_readLiteral_104 (by decide) ?_
                    refine g_goto (t := 110) dX12_readLiteral_106 (by decide) ?_
                    refine g_iadd dX12_readLiteral_110 ?_
                    refine g_istore_n (ls' := [some (.ref 139), some (.int a1), some (.int (z_tb q1.1)), some (.int (q798.1 + (6 : Int32)))]) dX12_readLiteral_111 rfl (Nat.le_of_ble_eq_true rfl) rfl ?_
                    refine g_aload_n dX12_readLiteral_112 rfl rfl ?_
                    refine g_iconst (v := (1 : Int32)) dX12_readLiteral_113 (by decide) ?_
                    obtain ⟨q803, e804, h⟩ := z_bd h
                    refine g_callV (a := 137) (as := [.int (1 : Int32)]) (rest := []) (c := mX12_must) (k1 := 2) dX12_readLiteral_114 rfl rfl rfl sh_137 rfl rfl (Nat.le_of_ble_eq_true rfl) (Nat.le_of_ble_eq_true rfl) (by decide) ?_
                    refine A_X12_must e804 ?_
                    show z_G none 5 mX12_readLiteral 117 [some (.ref 139), some (.int a1), some (.int (z_tb q1.1)), some (.int (q798.1 + (6 : Int32)))] [] q803.2 Q
                    refine g_iload_n dX12_readLiteral_117 rfl rfl ?_
                    cases h
                    exact g_iret dX12_readLiteral_118 rfl rfl hq
                · replace h := z_iff c797 h
                  refine g_iconst (v := (0 : Int32)) dX12_readLiteral_92 (by decide) ?_
                  refine g_goto (t := 111) dX12_readLiteral_93 (by decide) ?_
                  refine g_istore_n (ls' := [some (.ref 139), some (.int a1), some (.int (z_tb q1.1)), some (.int (0 : Int32))]) dX12_readLiteral_111 rfl (Nat.le_of_ble_eq_true rfl) rfl ?_
                  refine g_aload_n dX12_readLiteral_112 rfl rfl ?_
                  refine g_iconst (v := (1 : Int32)) dX12_readLiteral_113 (by decide) ?_
                  obtain ⟨q805, e806, h⟩ := z_bd h
                  refine g_callV (a := 137) (as := [.int (1 : Int32)]) (rest := []) (c := mX12_must) (k1 := 2) dX12_readLiteral_114 rfl rfl rfl sh_137 rfl rfl (Nat.le_of_ble_eq_true rfl) (Nat.le_of_ble_eq_true rfl) (by decide) ?_
                  refine A_X12_must e806 ?_
                  show z_G none 5 mX12_readLiteral 117 [some (.ref 139), some (.int a1), some (.int (z_tb q1.1)), some (.int (0 : Int32))] [] q805.2 Q
                  refine g_iload_n dX12_readLiteral_117 rfl rfl ?_
                  cases h
                  exact g_iret dX12_readLiteral_118 rfl rfl hq
            · replace h := z_ift c783 h
              refine g_aload_n dX12_readLiteral_56 rfl rfl ?_
              obtain ⟨q807, e808, h⟩ := z_bd h
              refine g_callV (a := 137) (as := []) (rest := []) (c := mX12_named) (k1 := 0) dX12_readLiteral_57 rfl rfl rfl sh_137 rfl rfl (Nat.le_of_ble_eq_true rfl) (Nat.le_of_ble_eq_true rfl) (by decide) ?_
              refine A_X12_named e808 ?_
              show z_G none 5 mX12_readLiteral 60 [some (.ref 139), some (.int a1), some (.int (z_tb q1.1)), none] [.int q807.1] q807.2 Q
              refine g_if_ge (t := 72) dX12_readLiteral_60 (by decide) (fun c809 => ?_) (fun c809 => ?_)
              · replace h := z_ift c809 h
                refine g_iload_n dX12_readLiteral_72 rfl rfl ?_
                refine g_if_eq (t := 85) dX12_readLiteral_73 (by decide) (fun c810 => ?_) (fun c810 => ?_)
                · replace h := z_ift c810 h
                  refine g_aload_n dX12_readLiteral_85 rfl rfl ?_
                  refine g_get (a := 137) (v := .int (q807.2.1 137 12)) dX12_readLiteral_86 f_12_212 sh_137 rfl rfl ?_
                  refine g_if_le (t := 96) dX12_readLiteral_89 (by decide) (fun c811 => ?_) (fun c811 => ?_)
                  · replace h := z_ift c811 h
                    refine g_aload_n dX12_readLiteral_96 rfl rfl ?_
                    obtain ⟨q812, e813, h⟩ := z_bd h
                    refine g_callV (a := 137) (as := []) (rest := []) (c := mX12_named) (k1 := 0) dX12_readLiteral_97 rfl rfl rfl sh_137 rfl rfl (Nat.le_of_ble_eq_true rfl) (Nat.le_of_ble_eq_true rfl) (by decide) ?_
                    refine A_X12_named e813 ?_
                    show z_G none 5 mX12_readLiteral 100 [some (.ref 139), some (.int a1), some (.int (z_tb q1.1)), none] [.int q812.1] q812.2 Q
                    refine g_iload_n dX12_readLiteral_100 rfl rfl ?_
                    refine g_if_eq (t := 109) dX12_readLiteral_101 (by decide) (fun c814 => ?_) (fun c814 => ?_)
                    · replace h := z_iff (z_tb0.mp c814) h
                      refine g_iconst (v := (0 : Int32)) dX12_readLiteral_109 (by decide) ?_
                      refine g_iadd dX12_readLiteral_110 ?_
                      refine g_istore_n (ls' := [some (.ref 139), some (.int a1), some (.int (z_tb q1.1)), some (.int (q812.1 + (0 : Int32)))]) dX12_readLiteral_111 rfl (Nat.le_of_ble_eq_true rfl) rfl ?_
                      refine g_aload_n dX12_readLiteral_112 rfl rfl ?_
                      refine g_iconst (v := (1 : Int32)) dX12_readLiteral_113 (by decide) ?_
                      obtain ⟨q815, e816, h⟩ := z_bd h
                      refine g_callV (a := 137) (as := [.int (1 : Int32)]) (rest := []) (c := mX12_must) (k1 := 2) dX12_readLiteral_114 rfl rfl rfl sh_137 rfl rfl (Nat.le_of_ble_eq_true rfl) (Nat.le_of_ble_eq_true rfl) (by decide) ?_
                      refine A_X12_must e816 ?_
                      show z_G none 5 mX12_readLiteral 117 [some (.ref 139), some (.int a1), some (.int (z_tb q1.1)), some (.int (q812.1 + (0 : Int32)))] [] q815.2 Q
                      refine g_iload_n dX12_readLiteral_117 rfl rfl ?_
                      cases h
                      exact g_iret dX12_readLiteral_118 rfl rfl hq
                    · replace h := z_ift (z_tbn.mp c814) h
                      refine g_bipush (v := (6 : Int32)) dX12_readLiteral_104 (by decide) ?_
                      refine g_goto (t := 110) dX12_readLiteral_106 (by decide) ?_
                      refine g_iadd dX12_readLiteral_110 ?_
                      refine g_istore_n (ls' := [some (.ref 139), some (.int a1), some (.int (z_tb q1.1)), some (.int (q812.1 + (6 : Int32)))]) dX12_readLiteral_111 rfl (Nat.le_of_ble_eq_true rfl) rfl ?_
                      refine g_aload_n dX12_readLiteral_112 rfl rfl ?_
                      refine g_iconst (v := (1 : Int32)) dX12_readLiteral_113 (by decide) ?_
                      obtain ⟨q817, e818, h⟩ := z_bd h
                      refine g_callV (a := 137) (as := [.int (1 : Int32)]) (rest := []) (c := mX12_must) (k1 := 2) dX12_readLiteral_114 rfl rfl rfl sh_137 rfl rfl (Nat.le_of_ble_eq_true rfl) (Nat.le_of_ble_eq_true rfl) (by decide) ?_
                      refine A_X12_must e818 ?_
                      show z_G none 5 mX12_readLiteral 117 [some (.ref 139), some (.int a1), some (.int (z_tb q1.1)), some (.int (q812.1 + (6 : Int32)))] [] q817.2 Q
                      refine g_iload_n dX12_readLiteral_117 rfl rfl ?_
                      cases h
                      exact g_iret dX12_readLiteral_118 rfl rfl hq
                  · replace h := z_iff c811 h
                    refine g_iconst (v := (0 : Int32)) dX12_readLiteral_92 (by decide) ?_
                    refine g_goto (t := 111) dX12_readLiteral_93 (by decide) ?_
                    refine g_istore_n (ls' := [some (.ref 139), some (.int a1), some (.int (z_tb q1.1)), some (.int (0 : Int32))]) dX12_readLiteral_111 rfl (Nat.le_of_ble_eq_true rfl) rfl ?_
                    refine g_aload_n dX12_readLiteral_112 rfl rfl ?_
                    refine g_iconst (v := (1 : Int32)) dX12_readLiteral_113 (by decide) ?_
                    obtain ⟨q819, e820, h⟩ := z_bd h
                    refine g_callV (a := 137) (as := [.int (1 : Int32)]) (rest := []) (c := mX12_must) (k1 := 2) dX12_readLiteral_114 rfl rfl rfl sh_137 rfl rfl (Nat.le_of_ble_eq_true rfl) (Nat.le_of_ble_eq_true rfl) (by decide) ?_
                    refine A_X12_must e820 ?_
                    show z_G none 5 mX12_readLiteral 117 [some (.ref 139), some (.int a1), some (.int (z_tb q1.1)), some (.int (0 : Int32))] [] q819.2 Q
                    refine g_iload_n dX12_readLiteral_117 rfl rfl ?_
                    cases h
                    exact g_iret dX12_readLiteral_118 rfl rfl hq
                · replace h := z_iff c810 h
                  refine g_aload_n dX12_readLiteral_76 rfl rfl ?_
                  refine g_iconst (v := (5 : Int32)) dX12_readLiteral_77 (by decide) ?_
                  refine g_aload_n dX12_readLiteral_78 rfl rfl ?_
                  refine g_get (a := 137) (v := .int (q807.2.1 137 15)) dX12_readLiteral_79 f_12_106 sh_137 rfl rfl ?_
                  obtain ⟨q821, e822, h⟩ := z_bd h
                  refine g_callV (a := 137) (as := [.int (5 : Int32), .int (q807.2.1 137 15)]) (rest := []) (c := mX12_fail) (k1 := 0) dX12_readLiteral_82 rfl rfl rfl sh_137 rfl rfl (Nat.le_of_ble_eq_true rfl) (Nat.le_of_ble_eq_true rfl) (by decide) ?_
                  refine A_X12_fail e822 ?_
                  show z_G none 5 mX12_readLiteral 85 [some (.ref 139), some (.int a1), some (.int (z_tb q1.1)), none] [] q821.2 Q
                  refine g_aload_n dX12_readLiteral_85 rfl rfl ?_
                  refine g_get (a := 137) (v := .int (q821.2.1 137 12)) dX12_readLiteral_86 f_12_212 sh_137 rfl rfl ?_
                  refine g_if_le (t := 96) dX12_readLiteral_89 (by decide) (fun c823 => ?_) (fun c823 => ?_)
                  · replace h := z_ift c823 h
                    refine g_aload_n dX12_readLiteral_96 rfl rfl ?_
                    obtain ⟨q824, e825, h⟩ := z_bd h
                    refine g_callV (a := 137) (as := []) (rest := []) (c := mX12_named) (k1 := 0) dX12_readLiteral_97 rfl rfl rfl sh_137 rfl rfl (Nat.le_of_ble_eq_true rfl) (Nat.le_of_ble_eq_true rfl) (by decide) ?_
                    refine A_X12_named e825 ?_
                    show z_G none 5 mX12_readLiteral 100 [some (.ref 139), some (.int a1), some (.int (z_tb q1.1)), none] [.int q824.1] q824.2 Q
                    refine g_iload_n dX12_readLiteral_100 rfl rfl ?_
                    refine g_if_eq (t := 109) dX12_readLiteral_101 (by decide) (fun c826 => ?_) (fun c826 => ?_)
                    · replace h := z_iff (z_tb0.mp c826) h
                      refine g_iconst (v := (0 : Int32)) dX12_readLiteral_109 (by decide) ?_
                      refine g_iadd dX12_readLiteral_110 ?_
                      refine g_istore_n (ls' := [some (.ref 139), some (.int a1), some (.int (z_tb q1.1)), some (.int (q824.1 + (0 : Int32)))]) dX12_readLiteral_111 rfl (Nat.le_of_ble_eq_true rfl) rfl ?_
                      refine g_aload_n dX12_readLiteral_112 rfl rfl ?_
                      refine g_iconst (v := (1 : Int32)) dX12_readLiteral_113 (by decide) ?_
                      obtain ⟨q827, e828, h⟩ := z_bd h
                      refine g_callV (a := 137) (as := [.int (1 : Int32)]) (rest := []) (c := mX12_must) (k1 := 2) dX12_readLiteral_114 rfl rfl rfl sh_137 rfl rfl (Nat.le_of_ble_eq_true rfl) (Nat.le_of_ble_eq_true rfl) (by decide) ?_
                      refine A_X12_must e828 ?_
                      show z_G none 5 mX12_readLiteral 117 [some (.ref 139), some (.int a1), some (.int (z_tb q1.1)), some (.int (q824.1 + (0 : Int32)))] [] q827.2 Q
                      refine g_iload_n dX12_readLiteral_117 rfl rfl ?_
                      cases h
                      exact g_iret dX12_readLiteral_118 rfl rfl hq
                    · replace h := z_ift (z_tbn.mp c826) h
                      refine g_bipush (v := (6 : Int32)) dX12_readLiteral_104 (by decide) ?_
                      refine g_goto (t := 110) dX12_readLiteral_106 (by decide) ?_
                      refine g_iadd dX12_readLiteral_110 ?_
                      refine g_istore_n (ls' := [some (.ref 139), some (.int a1), some (.int (z_tb q1.1)), some (.int (q824.1 + (6 : Int32)))]) dX12_readLiteral_111 rfl (Nat.le_of_ble_eq_true rfl) rfl ?_
                      refine g_aload_n dX12_readLiteral_112 rfl rfl ?_
                      refine g_iconst (v := (1 : Int32)) dX12_readLiteral_113 (by decide) ?_
                      obtain ⟨q829, e830, h⟩ := z_bd h
                      refine g_callV (a := 137) (as := [.int (1 : Int32)]) (rest := []) (c := mX12_must) (k1 := 2) dX12_readLiteral_114 rfl rfl rfl sh_137 rfl rfl (Nat.le_of_ble_eq_true rfl) (Nat.le_of_ble_eq_true rfl) (by decide) ?_
                      refine A_X12_must e830 ?_
                      show z_G none 5 mX12_readLiteral 117 [some (.ref 139), some (.int a1), some (.int (z_tb q1.1)), some (.int (q824.1 + (6 : Int32)))] [] q829.2 Q
                      refine g_iload_n dX12_readLiteral_117 rfl rfl ?_
                      cases h
                      exact g_iret dX12_readLiteral_118 rfl rfl hq
                  · replace h := z_iff c823 h
                    refine g_iconst (v := (0 : Int32)) dX12_readLiteral_92 (by decide) ?_
                    refine g_goto (t := 111) dX12_readLiteral_93 (by decide) ?_
                    refine g_istore_n (ls' := [some (.ref 139), some (.int a1), some (.int (z_tb q1.1)), some (.int (0 : Int32))]) dX12_readLiteral_111 rfl (Nat.le_of_ble_eq_true rfl) rfl ?_
                    refine g_aload_n dX12_readLiteral_112 rfl rfl ?_
                    refine g_iconst (v := (1 : Int32)) dX12_readLiteral_113 (by decide) ?_
                    obtain ⟨q831, e832, h⟩ := z_bd h
                    refine g_callV (a := 137) (as := [.int (1 : Int32)]) (rest := []) (c := mX12_must) (k1 := 2) dX12_readLiteral_114 rfl rfl rfl sh_137 rfl rfl (Nat.le_of_ble_eq_true rfl) (Nat.le_of_ble_eq_true rfl) (by decide) ?_
                    refine A_X12_must e832 ?_
                    show z_G none 5 mX12_readLiteral 117 [some (.ref 139), some (.int a1), some (.int (z_tb q1.1)), some (.int (0 : Int32))] [] q831.2 Q
                    refine g_iload_n dX12_readLiteral_117 rfl rfl ?_
                    cases h
                    exact g_iret dX12_readLiteral_118 rfl rfl hq
              · replace h := z_iff c809 h
                refine g_aload_n dX12_readLiteral_63 rfl rfl ?_
                refine g_iconst (v := (3 : Int32)) dX12_readLiteral_64 (by decide) ?_
                refine g_aload_n dX12_readLiteral_65 rfl rfl ?_
                refine g_get (a := 137) (v := .int (q807.2.1 137 15)) dX12_readLiteral_66 f_12_106 sh_137 rfl rfl ?_
                obtain ⟨q833, e834, h⟩ := z_bd h
                refine g_callV (a := 137) (as := [.int (3 : Int32), .int (q807.2.1 137 15)]) (rest := []) (c := mX12_fail) (k1 := 0) dX12_readLiteral_69 rfl rfl rfl sh_137 rfl rfl (Nat.le_of_ble_eq_true rfl) (Nat.le_of_ble_eq_true rfl) (by decide) ?_
                refine A_X12_fail e834 ?_
                show z_G none 5 mX12_readLiteral 72 [some (.ref 139), some (.int a1), some (.int (z_tb q1.1)), none] [] q833.2 Q
                refine g_iload_n dX12_readLiteral_72 rfl rfl ?_
                refine g_if_eq (t := 85) dX12_readLiteral_73 (by decide) (fun c835 => ?_) (fun c835 => ?_)
                · replace h := z_ift c835 h
                  refine g_aload_n dX12_readLiteral_85 rfl rfl ?_
                  refine g_get (a := 137) (v := .int (q833.2.1 137 12)) dX12_readLiteral_86 f_12_212 sh_137 rfl rfl ?_
                  refine g_if_le (t := 96) dX12_readLiteral_89 (by decide) (fun c836 => ?_) (fun c836 => ?_)
                  · replace h := z_ift c836 h
                    refine g_aload_n dX12_readLiteral_96 rfl rfl ?_
                    obtain ⟨q837, e838, h⟩ := z_bd h
                    refine g_callV (a := 137) (as := []) (rest := []) (c := mX12_named) (k1 := 0) dX12_readLiteral_97 rfl rfl rfl sh_137 rfl rfl (Nat.le_of_ble_eq_true rfl) (Nat.le_of_ble_eq_true rfl) (by decide) ?_
                    refine A_X12_named e838 ?_
                    show z_G none 5 mX12_readLiteral 100 [some (.ref 139), some (.int a1), some (.int (z_tb q1.1)), none] [.int q837.1] q837.2 Q
                    refine g_iload_n dX12_readLiteral_100 rfl rfl ?_
                    refine g_if_eq (t := 109) dX12_readLiteral_101 (by decide) (fun c839 => ?_) (fun c839 => ?_)
                    · replace h := z_iff (z_tb0.mp c839) h
                      refine g_iconst (v := (0 : Int32)) dX12_readLiteral_109 (by decide) ?_
                      refine g_iadd dX12_readLiteral_110 ?_
                      refine g_istore_n (ls' := [some (.ref 139), some (.int a1), some (.int (z_tb q1.1)), some (.int (q837.1 + (0 : Int32)))]) dX12_readLiteral_111 rfl (Nat.le_of_ble_eq_true rfl) rfl ?_
                      refine g_aload_n dX12_readLiteral_112 rfl rfl ?_
                      refine g_iconst (v := (1 : Int32)) dX12_readLiteral_113 (by decide) ?_
                      obtain ⟨q840, e841, h⟩ := z_bd h
                      refine g_callV (a := 137) (as := [.int (1 : Int32)]) (rest := []) (c := mX12_must) (k1 := 2) dX12_readLiteral_114 rfl rfl rfl sh_137 rfl rfl (Nat.le_of_ble_eq_true rfl) (Nat.le_of_ble_eq_true rfl) (by decide) ?_
                      refine A_X12_must e841 ?_
                      show z_G none 5 mX12_readLiteral 117 [some (.ref 139), some (.int a1), some (.int (z_tb q1.1)), some (.int (q837.1 + (0 : Int32)))] [] q840.2 Q
                      refine g_iload_n dX12_readLiteral_117 rfl rfl ?_
                      cases h
                      exact g_iret dX12_readLiteral_118 rfl rfl hq
                    · replace h := z_ift (z_tbn.mp c839) h
                      refine g_bipush (v := (6 : Int32)) dX12_readLiteral_104 (by decide) ?_
                      refine g_goto (t := 110) dX12_readLiteral_106 (by decide) ?_
                      refine g_iadd dX12_readLiteral_110 ?_
                      refine g_istore_n (ls' := [some (.ref 139), some (.int a1), some (.int (z_tb q1.1)), some (.int (q837.1 + (6 : Int32)))]) dX12_readLiteral_111 rfl (Nat.le_of_ble_eq_true rfl) rfl ?_
                      refine g_aload_n dX12_readLiteral_112 rfl rfl ?_
                      refine g_iconst (v := (1 : Int32)) dX12_readLiteral_113 (by decide) ?_
                      obtain ⟨q842, e843, h⟩ := z_bd h
                      refine g_callV (a := 137) (as := [.int (1 : Int32)]) (rest := []) (c := mX12_must) (k1 := 2) dX12_readLiteral_114 rfl rfl rfl sh_137 rfl rfl (Nat.le_of_ble_eq_true rfl) (Nat.le_of_ble_eq_true rfl) (by decide) ?_
                      refine A_X12_must e843 ?_
                      show z_G none 5 mX12_readLiteral 117 [some (.ref 139), some (.int a1), some (.int (z_tb q1.1)), some (.int (q837.1 + (6 : Int32)))] [] q842.2 Q
                      refine g_iload_n dX12_readLiteral_117 rfl rfl ?_
                      cases h
                      exact g_iret dX12_readLiteral_118 rfl rfl hq
                  · replace h := z_iff c836 h
                    refine g_iconst (v := (0 : Int32)) dX12_readLiteral_92 (by decide) ?_
                    refine g_goto (t := 111) dX12_readLiteral_93 (by decide) ?_
                    refine g_istore_n (ls' := [some (.ref 139), some (.int a1), some (.int (z_tb q1.1)), some (.int (0 : Int32))]) dX12_readLiteral_111 rfl (Nat.le_of_ble_eq_true rfl) rfl ?_
                    refine g_aload_n dX12_readLiteral_112 rfl rfl ?_
                    refine g_iconst (v := (1 : Int32)) dX12_readLiteral_113 (by decide) ?_
                    obtain ⟨q844, e845, h⟩ := z_bd h
                    refine g_callV (a := 137) (as := [.int (1 : Int32)]) (rest := []) (c := mX12_must) (k1 := 2) dX12_readLiteral_114 rfl rfl rfl sh_137 rfl rfl (Nat.le_of_ble_eq_true rfl) (Nat.le_of_ble_eq_true rfl) (by decide) ?_
                    refine A_X12_must e845 ?_
                    show z_G none 5 mX12_readLiteral 117 [some (.ref 139), some (.int a1), some (.int (z_tb q1.1)), some (.int (0 : Int32))] [] q844.2 Q
                    refine g_iload_n dX12_readLiteral_117 rfl rfl ?_
                    cases h
                    exact g_iret dX12_readLiteral_118 rfl rfl hq
                · replace h := z_iff c835 h
                  refine g_aload_n dX12_readLiteral_76 rfl rfl ?_
                  refine g_iconst (v := (5 : Int32)) dX12_readLiteral_77 (by decide) ?_
                  refine g_aload_n dX12_readLiteral_78 rfl rfl ?_
                  refine g_get (a := 137) (v := .int (q833.2.1 137 15)) dX12_readLiteral_79 f_12_106 sh_137 rfl rfl ?_
                  obtain ⟨q846, e847, h⟩ := z_bd h
                  refine g_callV (a := 137) (as := [.int (5 : Int32), .int (q833.2.1 137 15)]) (rest := []) (c := mX12_fail) (k1 := 0) dX12_readLiteral_82 rfl rfl rfl sh_137 rfl rfl (Nat.le_of_ble_eq_true rfl) (Nat.le_of_ble_eq_true rfl) (by decide) ?_
                  refine A_X12_fail e847 ?_
                  show z_G none 5 mX12_readLiteral 85 [some (.ref 139), some (.int a1), some (.int (z_tb q1.1)), none] [] q846.2 Q
                  refine g_aload_n dX12_readLiteral_85 rfl rfl ?_
                  refine g_get (a := 137) (v := .int (q846.2.1 137 12)) dX12_readLiteral_86 f_12_212 sh_137 rfl rfl ?_
                  refine g_if_le (t := 96) dX12_readLiteral_89 (by decide) (fun c848 => ?_) (fun c848 => ?_)
                  · replace h := z_ift c848 h
                    refine g_aload_n dX12_readLiteral_96 rfl rfl ?_
                    obtain ⟨q849, e850, h⟩ := z_bd h
                    refine g_callV (a := 137) (as := []) (rest := []) (c := mX12_named) (k1 := 0) dX12_readLiteral_97 rfl rfl rfl sh_137 rfl rfl (Nat.le_of_ble_eq_true rfl) (Nat.le_of_ble_eq_true rfl) (by decide) ?_
                    refine A_X12_named e850 ?_
                    show z_G none 5 mX12_readLiteral 100 [some (.ref 139), some (.int a1), some (.int (z_tb q1.1)), none] [.int q849.1] q849.2 Q
                    refine g_iload_n dX12_readLiteral_100 rfl rfl ?_
                    refine g_if_eq (t := 109) dX12_readLiteral_101 (by decide) (fun c851 => ?_) (fun c851 => ?_)
                    · replace h := z_iff (z_tb0.mp c851) h
                      refine g_iconst (v := (0 : Int32)) dX12_readLiteral_109 (by decide) ?_
                      refine g_iadd dX12_readLiteral_110 ?_
                      refine g_istore_n (ls' := [some (.ref 139), some (.int a1), some (.int (z_tb q1.1)), some (.int (q849.1 + (0 : Int32)))]) dX12_readLiteral_111 rfl (Nat.le_of_ble_eq_true rfl) rfl ?_
                      refine g_aload_n dX12_readLiteral_112 rfl rfl ?_
                      refine g_iconst (v := (1 : Int32)) dX12_readLiteral_113 (by decide) ?_
                      obtain ⟨q852, e853, h⟩ := z_bd h
                      refine g_callV (a := 137) (as := [.int (1 : Int32)]) (rest := []) (c := mX12_must) (k1 := 2) dX12_readLiteral_114 rfl rfl rfl sh_137 rfl rfl (Nat.le_of_ble_eq_true rfl) (Nat.le_of_ble_eq_true rfl) (by decide) ?_
                      refine A_X12_must e853 ?_
                      show z_G none 5 mX12_readLiteral 117 [some (.ref 139), some (.int a1), some (.int (z_tb q1.1)), some (.int (q849.1 + (0 : Int32)))] [] q852.2 Q
                      refine g_iload_n dX12_readLiteral_117 rfl rfl ?_
                      cases h
                      exact g_iret dX12_readLiteral_118 rfl rfl hq
                    · replace h := z_ift (z_tbn.mp c851) h
                      refine g_bipush (v := (6 : Int32)) dX12_readLiteral_104 (by decide) ?_
                      refine g_goto (t := 110) dX12_readLiteral_106 (by decide) ?_
                      refine g_iadd dX12_readLiteral_110 ?_
                      refine g_istore_n (ls' := [some (.ref 139), some (.int a1), some (.int (z_tb q1.1)), some (.int (q849.1 + (6 : Int32)))]) dX12_readLiteral_111 rfl (Nat.le_of_ble_eq_true rfl) rfl ?_
                      refine g_aload_n dX12_readLiteral_112 rfl rfl ?_
                      refine g_iconst (v := (1 : Int32)) dX12_readLiteral_113 (by decide) ?_
                      obtain ⟨q854, e855, h⟩ := z_bd h
                      refine g_callV (a := 137) (as := [.int (1 : Int32)]) (rest := []) (c := mX12_must) (k1 := 2) dX12_readLiteral_114 rfl rfl rfl sh_137 rfl rfl (Nat.le_of_ble_eq_true rfl) (Nat.le_of_ble_eq_true rfl) (by decide) ?_
                      refine A_X12_must e855 ?_
                      show z_G none 5 mX12_readLiteral 117 [some (.ref 139), some (.int a1), some (.int (z_tb q1.1)), some (.int (q849.1 + (6 : Int32)))] [] q854.2 Q
                      refine g_iload_n dX12_readLiteral_117 rfl rfl ?_
                      cases h
                      exact g_iret dX12_readLiteral_118 rfl rfl hq
                  · replace h := z_iff c848 h
                    refine g_iconst (v := (0 : Int32)) dX12_readLiteral_92 (by decide) ?_
                    refine g_goto (t := 111) dX12_readLiteral_93 (by decide) ?_
                    refine g_istore_n (ls' := [some (.ref 139), some (.int a1), some (.int (z_tb q1.1)), some (.int (0 : Int32))]) dX12_readLiteral_111 rfl (Nat.le_of_ble_eq_true rfl) rfl ?_
                    refine g_aload_n dX12_readLiteral_112 rfl rfl ?_
                    refine g_iconst (v := (1 : Int32)) dX12_readLiteral_113 (by decide) ?_
                    obtain ⟨q856, e857, h⟩ := z_bd h
                    refine g_callV (a := 137) (as := [.int (1 : Int32)]) (rest := []) (c := mX12_must) (k1 := 2) dX12_readLiteral_114 rfl rfl rfl sh_137 rfl rfl (Nat.le_of_ble_eq_true rfl) (Nat.le_of_ble_eq_true rfl) (by decide) ?_
                    refine A_X12_must e857 ?_
                    show z_G none 5 mX12_readLiteral 117 [some (.ref 139), some (.int a1), some (.int (z_tb q1.1)), some (.int (0 : Int32))] [] q856.2 Q
                    refine g_iload_n dX12_readLiteral_117 rfl rfl ?_
                    cases h
                    exact g_iret dX12_readLiteral_118 rfl rfl hq
          · replace h := z_iff (z_tb0.mp c782) h
            refine g_aload_n dX12_readLiteral_45 rfl rfl ?_
            obtain ⟨q858, e859, h⟩ := z_bd h
            refine g_callV (a := 137) (as := []) (rest := []) (c := mX12_amiss) (k1 := 1) dX12_readLiteral_46 rfl rfl rfl sh_137 rfl rfl (Nat.le_of_ble_eq_true rfl) (Nat.le_of_ble_eq_true rfl) (by decide) ?_
            refine A_X12_amiss e859 ?_
            show z_G none 5 mX12_readLiteral 49 [some (.ref 139), some (.int a1), some (.int (z_tb q1.1)), none] [] q858.2 Q
            refine g_aload_n dX12_readLiteral_49 rfl rfl ?_
            refine g_get (a := 137) (v := .int (q858.2.1 137 12)) dX12_readLiteral_50 f_12_212 sh_137 rfl rfl ?_
            refine g_if_ne (t := 72) dX12_readLiteral_53 (by decide) (fun c860 => ?_) (fun c860 => ?_)
            · replace h := z_iff c860 h
              refine g_iload_n dX12_readLiteral_72 rfl rfl ?_
              refine g_if_eq (t := 85) dX12_readLiteral_73 (by decide) (fun c861 => ?_) (fun c861 => ?_)
              · replace h := z_ift c861 h
                refine g_aload_n dX12_readLiteral_85 rfl rfl ?_
                refine g_get (a := 137) (v := .int (q858.2.1 137 12)) dX12_readLiteral_86 f_12_212 sh_137 rfl rfl ?_
                refine g_if_le (t := 96) dX12_readLiteral_89 (by decide) (fun c862 => ?_) (fun c862 => ?_)
                · replace h := z_ift c862 h
                  refine g_aload_n dX12_readLiteral_96 rfl rfl ?_
                  obtain ⟨q863, e864, h⟩ := z_bd h
                  refine g_callV (a := 137) (as := []) (rest := []) (c := mX12_named) (k1 := 0) dX12_readLiteral_97 rfl rfl rfl sh_137 rfl rfl (Nat.le_of_ble_eq_true rfl) (Nat.le_of_ble_eq_true rfl) (by decide) ?_
                  refine A_X12_named e864 ?_
                  show z_G none 5 mX12_readLiteral 100 [some (.ref 139), some (.int a1), some (.int (z_tb q1.1)), none] [.int q863.1] q863.2 Q
                  refine g_iload_n dX12_readLiteral_100 rfl rfl ?_
                  refine g_if_eq (t := 109) dX12_readLiteral_101 (by decide) (fun c865 => ?_) (fun c865 => ?_)
                  · replace h := z_iff (z_tb0.mp c865) h
                    refine g_iconst (v := (0 : Int32)) dX12_readLiteral_109 (by decide) ?_
                    refine g_iadd dX12_readLiteral_110 ?_
                    refine g_istore_n (ls' := [some (.ref 139), some (.int a1), some (.int (z_tb q1.1)), some (.int (q863.1 + (0 : Int32)))]) dX12_readLiteral_111 rfl (Nat.le_of_ble_eq_true rfl) rfl ?_
                    refine g_aload_n dX12_readLiteral_112 rfl rfl ?_
                    refine g_iconst (v := (1 : Int32)) dX12_readLiteral_113 (by decide) ?_
                    obtain ⟨q866, e867, h⟩ := z_bd h
                    refine g_callV (a := 137) (as := [.int (1 : Int32)]) (rest := []) (c := mX12_must) (k1 := 2) dX12_readLiteral_114 rfl rfl rfl sh_137 rfl rfl (Nat.le_of_ble_eq_true rfl) (Nat.le_of_ble_eq_true rfl) (by decide) ?_
                    refine A_X12_must e867 ?_
                    show z_G none 5 mX12_readLiteral 117 [some (.ref 139), some (.int a1), some (.int (z_tb q1.1)), some (.int (q863.1 + (0 : Int32)))] [] q866.2 Q
                    refine g_iload_n dX12_readLiteral_117 rfl rfl ?_
                    cases h
                    exact g_iret dX12_readLiteral_118 rfl rfl hq
                  · replace h := z_ift (z_tbn.mp c865) h
                    refine g_bipush (v := (6 : Int32)) dX12_readLiteral_104 (by decide) ?_
                    refine g_goto (t := 110) dX12_readLiteral_106 (by decide) ?_
                    refine g_iadd dX12_readLiteral_110 ?_
                    refine g_istore_n (ls' := [some (.ref 139), some (.int a1), some (.int (z_tb q1.1)), some (.int (q863.1 + (6 : Int32)))]) dX12_readLiteral_111 rfl (Nat.le_of_ble_eq_true rfl) rfl ?_
                    refine g_aload_n dX12_readLiteral_112 rfl rfl ?_
                    refine g_iconst (v := (1 : Int32)) dX12_readLiteral_113 (by decide) ?_
                    obtain ⟨q868, e869, h⟩ := z_bd h
                    refine g_callV (a := 137) (as := [.int (1 : Int32)]) (rest := []) (c := mX12_must) (k1 := 2) dX12_readLiteral_114 rfl rfl rfl sh_137 rfl rfl (Nat.le_of_ble_eq_true rfl) (Nat.le_of_ble_eq_true rfl) (by decide) ?_
                    refine A_X12_must e869 ?_
                    show z_G none 5 mX12_readLiteral 117 [some (.ref 139), some (.int a1), some (.int (z_tb q1.1)), some (.int (q863.1 + (6 : Int32)))] [] q868.2 Q
                    refine g_iload_n dX12_readLiteral_117 rfl rfl ?_
                    cases h
                    exact g_iret dX12_readLiteral_118 rfl rfl hq
                · replace h := z_iff c862 h
                  refine g_iconst (v := (0 : Int32)) dX12_readLiteral_92 (by decide) ?_
                  refine g_goto (t := 111) dX12_readLiteral_93 (by decide) ?_
                  refine g_istore_n (ls' := [some (.ref 139), some (.int a1), some (.int (z_tb q1.1)), some (.int (0 : Int32))]) dX12_readLiteral_111 rfl (Nat.le_of_ble_eq_true rfl) rfl ?_
                  refine g_aload_n dX12_readLiteral_112 rfl rfl ?_
                  refine g_iconst (v := (1 : Int32)) dX12_readLiteral_113 (by decide) ?_
                  obtain ⟨q870, e871, h⟩ := z_bd h
                  refine g_callV (a := 137) (as := [.int (1 : Int32)]) (rest := []) (c := mX12_must) (k1 := 2) dX12_readLiteral_114 rfl rfl rfl sh_137 rfl rfl (Nat.le_of_ble_eq_true rfl) (Nat.le_of_ble_eq_true rfl) (by decide) ?_
                  refine A_X12_must e871 ?_
                  show z_G none 5 mX12_readLiteral 117 [some (.ref 139), some (.int a1), some (.int (z_tb q1.1)), some (.int (0 : Int32))] [] q870.2 Q
                  refine g_iload_n dX12_readLiteral_117 rfl rfl ?_
                  cases h
                  exact g_iret dX12_readLiteral_118 rfl rfl hq
              · replace h := z_iff c861 h
                refine g_aload_n dX12_readLiteral_76 rfl rfl ?_
                refine g_iconst (v := (5 : Int32)) dX12_readLiteral_77 (by decide) ?_
                refine g_aload_n dX12_readLiteral_78 rfl rfl ?_
                refine g_get (a := 137) (v := .int (q858.2.1 137 15)) dX12_readLiteral_79 f_12_106 sh_137 rfl rfl ?_
                obtain ⟨q872, e873, h⟩ := z_bd h
                refine g_callV (a := 137) (as := [.int (5 : Int32), .int (q858.2.1 137 15)]) (rest := []) (c := mX12_fail) (k1 := 0) dX12_readLiteral_82 rfl rfl rfl sh_137 rfl rfl (Nat.le_of_ble_eq_true rfl) (Nat.le_of_ble_eq_true rfl) (by decide) ?_
                refine A_X12_fail e873 ?_
                show z_G none 5 mX12_readLiteral 85 [some (.ref 139), some (.int a1), some (.int (z_tb q1.1)), none] [] q872.2 Q
                refine g_aload_n dX12_readLiteral_85 rfl rfl ?_
                refine g_get (a := 137) (v := .int (q872.2.1 137 12)) dX12_readLiteral_86 f_12_212 sh_137 rfl rfl ?_
                refine g_if_le (t := 96) dX12_readLiteral_89 (by decide) (fun c874 => ?_) (fun c874 => ?_)
                · replace h := z_ift c874 h
                  refine g_aload_n dX12_readLiteral_96 rfl rfl ?_
                  obtain ⟨q875, e876, h⟩ := z_bd h
                  refine g_callV (a := 137) (as := []) (rest := []) (c := mX12_named) (k1 := 0) dX12_readLiteral_97 rfl rfl rfl sh_137 rfl rfl (Nat.le_of_ble_eq_true rfl) (Nat.le_of_ble_eq_true rfl) (by decide) ?_
                  refine A_X12_named e876 ?_
                  show z_G none 5 mX12_readLiteral 100 [some (.ref 139), some (.int a1), some (.int (z_tb q1.1)), none] [.int q875.1] q875.2 Q
                  refine g_iload_n dX12_readLiteral_100 rfl rfl ?_
                  refine g_if_eq (t := 109) dX12_readLiteral_101 (by decide) (fun c877 => ?_) (fun c877 => ?_)
                  · replace h := z_iff (z_tb0.mp c877) h
                    refine g_iconst (v := (0 : Int32)) dX12_readLiteral_109 (by decide) ?_
                    refine g_iadd dX12_readLiteral_110 ?_
                    refine g_istore_n (ls' := [some (.ref 139), some (.int a1), some (.int (z_tb q1.1)), some (.int (q875.1 + (0 : Int32)))]) dX12_readLiteral_111 rfl (Nat.le_of_ble_eq_true rfl) rfl ?_
                    refine g_aload_n dX12_readLiteral_112 rfl rfl ?_
                    refine g_iconst (v := (1 : Int32)) dX12_readLiteral_113 (by decide) ?_
                    obtain ⟨q878, e879, h⟩ := z_bd h
                    refine g_callV (a := 137) (as := [.int (1 : Int32)]) (rest := []) (c := mX12_must) (k1 := 2) dX12_readLiteral_114 rfl rfl rfl sh_137 rfl rfl (Nat.le_of_ble_eq_true rfl) (Nat.le_of_ble_eq_true rfl) (by decide) ?_
                    refine A_X12_must e879 ?_
                    show z_G none 5 mX12_readLiteral 117 [some (.ref 139), some (.int a1), some (.int (z_tb q1.1)), some (.int (q875.1 + (0 : Int32)))] [] q878.2 Q
                    refine g_iload_n dX12_readLiteral_117 rfl rfl ?_
                    cases h
                    exact g_iret dX12_readLiteral_118 rfl rfl hq
                  · replace h := z_ift (z_tbn.mp c877) h
                    refine g_bipush (v := (6 : Int32)) dX12_readLiteral_104 (by decide) ?_
                    refine g_goto (t := 110) dX12_readLiteral_106 (by decide) ?_
                    refine g_iadd dX12_readLiteral_110 ?_
                    refine g_istore_n (ls' := [some (.ref 139), some (.int a1), some (.int (z_tb q1.1)), some (.int (q875.1 + (6 : Int32)))]) dX12_readLiteral_111 rfl (Nat.le_of_ble_eq_true rfl) rfl ?_
                    refine g_aload_n dX12_readLiteral_112 rfl rfl ?_
                    refine g_iconst (v := (1 : Int32)) dX12_readLiteral_113 (by decide) ?_
                    obtain ⟨q880, e881, h⟩ := z_bd h
                    refine g_callV (a := 137) (as := [.int (1 : Int32)]) (rest := []) (c := mX12_must) (k1 := 2) dX12_readLiteral_114 rfl rfl rfl sh_137 rfl rfl (Nat.le_of_ble_eq_true rfl) (Nat.le_of_ble_eq_true rfl) (by decide) ?_
                    refine A_X12_must e881 ?_
                    show z_G none 5 mX12_readLiteral 117 [some (.ref 139), some (.int a1), some (.int (z_tb q1.1)), some (.int (q875.1 + (6 : Int32)))] [] q880.2 Q
                    refine g_iload_n dX12_readLiteral_117 rfl rfl ?_
                    cases h
                    exact g_iret dX12_readLiteral_118 rfl rfl hq
                · replace h := z_iff c874 h
                  refine g_iconst (v := (0 : Int32)) dX12_readLiteral_92 (by decide) ?_
                  refine g_goto (t := 111) dX12_readLiteral_93 (by decide) ?_
                  refine g_istore_n (ls' := [some (.ref 139), some (.int a1), some (.int (z_tb q1.1)), some (.int (0 : Int32))]) dX12_readLiteral_111 rfl (Nat.le_of_ble_eq_true rfl) rfl ?_
                  refine g_aload_n dX12_readLiteral_112 rfl rfl ?_
                  refine g_iconst (v := (1 : Int32)) dX12_readLiteral_113 (by decide) ?_
                  obtain ⟨q882, e883, h⟩ := z_bd h
                  refine g_callV (a := 137) (as := [.int (1 : Int32)]) (rest := []) (c := mX12_must) (k1 := 2) dX12_readLiteral_114 rfl rfl rfl sh_137 rfl rfl (Nat.le_of_ble_eq_true rfl) (Nat.le_of_ble_eq_true rfl) (by decide) ?_
                  refine A_X12_must e883 ?_
                  show z_G none 5 mX12_readLiteral 117 [some (.ref 139), some (.int a1), some (.int (z_tb q1.1)), some (.int (0 : Int32))] [] q882.2 Q
                  refine g_iload_n dX12_readLiteral_117 rfl rfl ?_
                  cases h
                  exact g_iret dX12_readLiteral_118 rfl rfl hq
            · replace h := z_ift c860 h
              refine g_aload_n dX12_readLiteral_56 rfl rfl ?_
              obtain ⟨q884, e885, h⟩ := z_bd h
              refine g_callV (a := 137) (as := []) (rest := []) (c := mX12_named) (k1 := 0) dX12_readLiteral_57 rfl rfl rfl sh_137 rfl rfl (Nat.le_of_ble_eq_true rfl) (Nat.le_of_ble_eq_true rfl) (by decide) ?_
              refine A_X12_named e885 ?_
              show z_G none 5 mX12_readLiteral 60 [some (.ref 139), some (.int a1), some (.int (z_tb q1.1)), none] [.int q884.1] q884.2 Q
              refine g_if_ge (t := 72) dX12_readLiteral_60 (by decide) (fun c886 => ?_) (fun c886 => ?_)
              · replace h := z_ift c886 h
                refine g_iload_n dX12_readLiteral_72 rfl rfl ?_
                refine g_if_eq (t := 85) dX12_readLiteral_73 (by decide) (fun c887 => ?_) (fun c887 => ?_)
                · replace h := z_ift c887 h
                  refine g_aload_n dX12_readLiteral_85 rfl rfl ?_
                  refine g_get (a := 137) (v := .int (q884.2.1 137 12)) dX12_readLiteral_86 f_12_212 sh_137 rfl rfl ?_
                  refine g_if_le (t := 96) dX12_readLiteral_89 (by decide) (fun c888 => ?_) (fun c888 => ?_)
                  · replace h := z_ift c888 h
                    refine g_aload_n dX12_readLiteral_96 rfl rfl ?_
                    obtain ⟨q889, e890, h⟩ := z_bd h
                    refine g_callV (a := 137) (as := []) (rest := []) (c := mX12_named) (k1 := 0) dX12_readLiteral_97 rfl rfl rfl sh_137 rfl rfl (Nat.le_of_ble_eq_true rfl) (Nat.le_of_ble_eq_true rfl) (by decide) ?_
                    refine A_X12_named e890 ?_
                    show z_G none 5 mX12_readLiteral 100 [some (.ref 139), some (.int a1), some (.int (z_tb q1.1)), none] [.int q889.1] q889.2 Q
                    refine g_iload_n dX12_readLiteral_100 rfl rfl ?_
                    refine g_if_eq (t := 109) dX12_readLiteral_101 (by decide) (fun c891 => ?_) (fun c891 => ?_)
                    · replace h := z_iff (z_tb0.mp c891) h
                      refine g_iconst (v := (0 : Int32)) dX12_readLiteral_109 (by decide) ?_
                      refine g_iadd dX12_readLiteral_110 ?_
                      refine g_istore_n (ls' := [some (.ref 139), some (.int a1), some (.int (z_tb q1.1)), some (.int (q889.1 + (0 : Int32)))]) dX12_readLiteral_111 rfl (Nat.le_of_ble_eq_true rfl) rfl ?_
                      refine g_aload_n dX12_readLiteral_112 rfl rfl ?_
                      refine g_iconst (v := (1 : Int32)) dX12_readLiteral_113 (by decide) ?_
                      obtain ⟨q892, e893, h⟩ := z_bd h
                      refine g_callV (a := 137) (as := [.int (1 : Int32)]) (rest := []) (c := mX12_must) (k1 := 2) dX12_readLiteral_114 rfl rfl rfl sh_137 rfl rfl (Nat.le_of_ble_eq_true rfl) (Nat.le_of_ble_eq_true rfl) (by decide) ?_
                      refine A_X12_must e893 ?_
                      show z_G none 5 mX12_readLiteral 117 [some (.ref 139), some (.int a1), some (.int (z_tb q1.1)), some (.int (q889.1 + (0 : Int32)))] [] q892.2 Q
                      refine g_iload_n dX12_readLiteral_117 rfl rfl ?_
                      cases h
                      exact g_iret dX12_readLiteral_118 rfl rfl hq
                    · replace h := z_ift (z_tbn.mp c891) h
                      refine g_bipush (v := (6 : Int32)) dX12_readLiteral_104 (by decide) ?_
                      refine g_goto (t := 110) dX12_readLiteral_106 (by decide) ?_
                      refine g_iadd dX12_readLiteral_110 ?_
                      refine g_istore_n (ls' := [some (.ref 139), some (.int a1), some (.int (z_tb q1.1)), some (.int (q889.1 + (6 : Int32)))]) dX12_readLiteral_111 rfl (Nat.le_of_ble_eq_true rfl) rfl ?_
                      refine g_aload_n dX12_readLiteral_112 rfl rfl ?_
                      refine g_iconst (v := (1 : Int32)) dX12_readLiteral_113 (by decide) ?_
                      obtain ⟨q894, e895, h⟩ := z_bd h
                      refine g_callV (a := 137) (as := [.int (1 : Int32)]) (rest := []) (c := mX12_must) (k1 := 2) dX12_readLiteral_114 rfl rfl rfl sh_137 rfl rfl (Nat.le_of_ble_eq_true rfl) (Nat.le_of_ble_eq_true rfl) (by decide) ?_
                      refine A_X12_must e895 ?_
                      show z_G none 5 mX12_readLiteral 117 [some (.ref 139), some (.int a1), some (.int (z_tb q1.1)), some (.int (q889.1 + (6 : Int32)))] [] q894.2 Q
                      refine g_iload_n dX12_readLiteral_117 rfl rfl ?_
                      cases h
                      exact g_iret dX12_readLiteral_118 rfl rfl hq
                  · replace h := z_iff c888 h
                    refine g_iconst (v := (0 : Int32)) dX12_readLiteral_92 (by decide) ?_
                    refine g_goto (t := 111) dX12_readLiteral_93 (by decide) ?_
                    refine g_istore_n (ls' := [some (.ref 139), some (.int a1), some (.int (z_tb q1.1)), some (.int (0 : Int32))]) dX12_readLiteral_111 rfl (Nat.le_of_ble_eq_true rfl) rfl ?_
                    refine g_aload_n dX12_readLiteral_112 rfl rfl ?_
                    refine g_iconst (v := (1 : Int32)) dX12_readLiteral_113 (by decide) ?_
                    obtain ⟨q896, e897, h⟩ := z_bd h
                    refine g_callV (a := 137) (as := [.int (1 : Int32)]) (rest := []) (c := mX12_must) (k1 := 2) dX12_readLiteral_114 rfl rfl rfl sh_137 rfl rfl (Nat.le_of_ble_eq_true rfl) (Nat.le_of_ble_eq_true rfl) (by decide) ?_
                    refine A_X12_must e897 ?_
                    show z_G none 5 mX12_readLiteral 117 [some (.ref 139), some (.int a1), some (.int (z_tb q1.1)), some (.int (0 : Int32))] [] q896.2 Q
                    refine g_iload_n dX12_readLiteral_117 rfl rfl ?_
                    cases h
                    exact g_iret dX12_readLiteral_118 rfl rfl hq
                · replace h := z_iff c887 h
                  refine g_aload_n dX12_readLiteral_76 rfl rfl ?_
                  refine g_iconst (v := (5 : Int32)) dX12_readLiteral_77 (by decide) ?_
                  refine g_aload_n dX12_readLiteral_78 rfl rfl ?_
                  refine g_get (a := 137) (v := .int (q884.2.1 137 15)) dX12_readLiteral_79 f_12_106 sh_137 rfl rfl ?_
                  obtain ⟨q898, e899, h⟩ := z_bd h
                  refine g_callV (a := 137) (as := [.int (5 : Int32), .int (q884.2.1 137 15)]) (rest := []) (c := mX12_fail) (k1 := 0) dX12_readLiteral_82 rfl rfl rfl sh_137 rfl rfl (Nat.le_of_ble_eq_true rfl) (Nat.le_of_ble_eq_true rfl) (by decide) ?_
                  refine A_X12_fail e899 ?_
                  show z_G none 5 mX12_readLiteral 85 [some (.ref 139), some (.int a1), some (.int (z_tb q1.1)), none] [] q898.2 Q
                  refine g_aload_n dX12_readLiteral_85 rfl rfl ?_
                  refine g_get (a := 137) (v := .int (q898.2.1 137 12)) dX12_readLiteral_86 f_12_212 sh_137 rfl rfl ?_
                  refine g_if_le (t := 96) dX12_readLiteral_89 (by decide) (fun c900 => ?_) (fun c900 => ?_)
                  · replace h := z_ift c900 h
                    refine g_aload_n dX12_readLiteral_96 rfl rfl ?_
                    obtain ⟨q901, e902, h⟩ := z_bd h
                    refine g_callV (a := 137) (as := []) (rest := []) (c := mX12_named) (k1 := 0) dX12_readLiteral_97 rfl rfl rfl sh_137 rfl rfl (Nat.le_of_ble_eq_true rfl) (Nat.le_of_ble_eq_true rfl) (by decide) ?_
                    refine A_X12_named e902 ?_
                    show z_G none 5 mX12_readLiteral 100 [some (.ref 139), some (.int a1), some (.int (z_tb q1.1)), none] [.int q901.1] q901.2 Q
                    refine g_iload_n dX12_readLiteral_100 rfl rfl ?_
                    refine g_if_eq (t := 109) dX12_readLiteral_101 (by decide) (fun c903 => ?_) (fun c903 => ?_)
                    · replace h := z_iff (z_tb0.mp c903) h
                      refine g_iconst (v := (0 : Int32)) dX12_readLiteral_109 (by decide) ?_
                      refine g_iadd dX12_readLiteral_110 ?_
                      refine g_istore_n (ls' := [some (.ref 139), some (.int a1), some (.int (z_tb q1.1)), some (.int (q901.1 + (0 : Int32)))]) dX12_readLiteral_111 rfl (Nat.le_of_ble_eq_true rfl) rfl ?_
                      refine g_aload_n dX12_readLiteral_112 rfl rfl ?_
                      refine g_iconst (v := (1 : Int32)) dX12_readLiteral_113 (by decide) ?_
                      obtain ⟨q904, e905, h⟩ := z_bd h
                      refine g_callV (a := 137) (as := [.int (1 : Int32)]) (rest := []) (c := mX12_must) (k1 := 2) dX12_readLiteral_114 rfl rfl rfl sh_137 rfl rfl (Nat.le_of_ble_eq_true rfl) (Nat.le_of_ble_eq_true rfl) (by decide) ?_
                      refine A_X12_must e905 ?_
                      show z_G none 5 mX12_readLiteral 117 [some (.ref 139), some (.int a1), some (.int (z_tb q1.1)), some (.int (q901.1 + (0 : Int32)))] [] q904.2 Q
                      refine g_iload_n dX12_readLiteral_117 rfl rfl ?_
                      cases h
                      exact g_iret dX12_readLiteral_118 rfl rfl hq
                    · replace h := z_ift (z_tbn.mp c903) h
                      refine g_bipush (v := (6 : Int32)) dX12_readLiteral_104 (by decide) ?_
                      refine g_goto (t := 110) dX12_readLiteral_106 (by decide) ?_
                      refine g_iadd dX12_readLiteral_110 ?_
                      refine g_istore_n (ls' := [some (.ref 139), some (.int a1), some (.int (z_tb q1.1)), some (.int (q901.1 + (6 : Int32)))]) dX12_readLiteral_111 rfl (Nat.le_of_ble_eq_true rfl) rfl ?_
                      refine g_aload_n dX12_readLiteral_112 rfl rfl ?_
                      refine g_iconst (v := (1 : Int32)) dX12_readLiteral_113 (by decide) ?_
                      obtain ⟨q906, e907, h⟩ := z_bd h
                      refine g_callV (a := 137) (as := [.int (1 : Int32)]) (rest := []) (c := mX12_must) (k1 := 2) dX12_readLiteral_114 rfl rfl rfl sh_137 rfl rfl (Nat.le_of_ble_eq_true rfl) (Nat.le_of_ble_eq_true rfl) (by decide) ?_
                      refine A_X12_must e907 ?_
                      show z_G none 5 mX12_readLiteral 117 [some (.ref 139), some (.int a1), some (.int (z_tb q1.1)), some (.int (q901.1 + (6 : Int32)))] [] q906.2 Q
                      refine g_iload_n dX12_readLiteral_117 rfl rfl ?_
                      cases h
                      exact g_iret dX12_readLiteral_118 rfl rfl hq
                  · replace h := z_iff c900 h
                    refine g_iconst (v := (0 : Int32)) dX12_readLiteral_92 (by decide) ?_
                    refine g_goto (t := 111) dX12_readLiteral_93 (by decide) ?_
                    refine g_istore_n (ls' := [some (.ref 139), some (.int a1), some (.int (z_tb q1.1)), some (.int (0 : Int32))]) dX12_readLiteral_111 rfl (Nat.le_of_ble_eq_true rfl) rfl ?_
                    refine g_aload_n dX12_readLiteral_112 rfl rfl ?_
                    refine g_iconst (v := (1 : Int32)) dX12_readLiteral_113 (by decide) ?_
                    obtain ⟨q908, e909, h⟩ := z_bd h
                    refine g_callV (a := 137) (as := [.int (1 : Int32)]) (rest := []) (c := mX12_must) (k1 := 2) dX12_readLiteral_114 rfl rfl rfl sh_137 rfl rfl (Nat.le_of_ble_eq_true rfl) (Nat.le_of_ble_eq_true rfl) (by decide) ?_
                    refine A_X12_must e909 ?_
                    show z_G none 5 mX12_readLiteral 117 [some (.ref 139), some (.int a1), some (.int (z_tb q1.1)), some (.int (0 : Int32))] [] q908.2 Q
                    refine g_iload_n dX12_readLiteral_117 rfl rfl ?_
                    cases h
                    exact g_iret dX12_readLiteral_118 rfl rfl hq
              · replace h := z_iff c886 h
                refine g_aload_n dX12_readLiteral_63 rfl rfl ?_
                refine g_iconst (v := (3 : Int32)) dX12_readLiteral_64 (by decide) ?_
                refine g_aload_n dX12_readLiteral_65 rfl rfl ?_
                refine g_get (a := 137) (v := .int (q884.2.1 137 15)) dX12_readLiteral_66 f_12_106 sh_137 rfl rfl ?_
                obtain ⟨q910, e911, h⟩ := z_bd h
                refine g_callV (a := 137) (as := [.int (3 : Int32), .int (q884.2.1 137 15)]) (rest := []) (c := mX12_fail) (k1 := 0) dX12_readLiteral_69 rfl rfl rfl sh_137 rfl rfl (Nat.le_of_ble_eq_true rfl) (Nat.le_of_ble_eq_true rfl) (by decide) ?_
                refine A_X12_fail e911 ?_
                show z_G none 5 mX12_readLiteral 72 [some (.ref 139), some (.int a1), some (.int (z_tb q1.1)), none] [] q910.2 Q
                refine g_iload_n dX12_readLiteral_72 rfl rfl ?_
                refine g_if_eq (t := 85) dX12_readLiteral_73 (by decide) (fun c912 => ?_) (fun c912 => ?_)
                · replace h := z_ift c912 h
                  refine g_aload_n dX12_readLiteral_85 rfl rfl ?_
                  refine g_get (a := 137) (v := .int (q910.2.1 137 12)) dX12_readLiteral_86 f_12_212 sh_137 rfl rfl ?_
                  refine g_if_le (t := 96) dX12_readLiteral_89 (by decide) (fun c913 => ?_) (fun c913 => ?_)
                  · replace h := z_ift c913 h
                    refine g_aload_n dX12_readLiteral_96 rfl rfl ?_
                    obtain ⟨q914, e915, h⟩ := z_bd h
                    refine g_callV (a := 137) (as := []) (rest := []) (c := mX12_named) (k1 := 0) dX12_readLiteral_97 rfl rfl rfl sh_137 rfl rfl (Nat.le_of_ble_eq_true rfl) (Nat.le_of_ble_eq_true rfl) (by decide) ?_
                    refine A_X12_named e915 ?_
                    show z_G none 5 mX12_readLiteral 100 [some (.ref 139), some (.int a1), some (.int (z_tb q1.1)), none] [.int q914.1] q914.2 Q
                    refine g_iload_n dX12_readLiteral_100 rfl rfl ?_
                    refine g_if_eq (t := 109) dX12_readLiteral_101 (by decide) (fun c916 => ?_) (fun c916 => ?_)
                    · replace h := z_iff (z_tb0.mp c916) h
                      refine g_iconst (v := (0 : Int32)) dX12_readLiteral_109 (by decide) ?_
                      refine g_iadd dX12_readLiteral_110 ?_
                      refine g_istore_n (ls' := [some (.ref 139), some (.int a1), some (.int (z_tb q1.1)), some (.int (q914.1 + (0 : Int32)))]) dX12_readLiteral_111 rfl (Nat.le_of_ble_eq_true rfl) rfl ?_
                      refine g_aload_n dX12_readLiteral_112 rfl rfl ?_
                      refine g_iconst (v := (1 : Int32)) dX12_readLiteral_113 (by decide) ?_
                      obtain ⟨q917, e918, h⟩ := z_bd h
                      refine g_callV (a := 137) (as := [.int (1 : Int32)]) (rest := []) (c := mX12_must) (k1 := 2) dX12_readLiteral_114 rfl rfl rfl sh_137 rfl rfl (Nat.le_of_ble_eq_true rfl) (Nat.le_of_ble_eq_true rfl) (by decide) ?_
                      refine A_X12_must e918 ?_
                      show z_G none 5 mX12_readLiteral 117 [some (.ref 139), some (.int a1), some (.int (z_tb q1.1)), some (.int (q914.1 + (0 : Int32)))] [] q917.2 Q
                      refine g_iload_n dX12_readLiteral_117 rfl rfl ?_
                      cases h
                      exact g_iret dX12_readLiteral_118 rfl rfl hq
                    · replace h := z_ift (z_tbn.mp c916) h
                      refine g_bipush (v := (6 : Int32)) dX12_readLiteral_104 (by decide) ?_
                      refine g_goto (t := 110) dX12_readLiteral_106 (by decide) ?_
                      refine g_iadd dX12_readLiteral_110 ?_
                      refine g_istore_n (ls' := [some (.ref 139), some (.int a1), some (.int (z_tb q1.1)), some (.int (q914.1 + (6 : Int32)))]) dX12_readLiteral_111 rfl (Nat.le_of_ble_eq_true rfl) rfl ?_
                      refine g_aload_n dX12_readLiteral_112 rfl rfl ?_
                      refine g_iconst (v := (1 : Int32)) dX12_readLiteral_113 (by decide) ?_
                      obtain ⟨q919, e920, h⟩ := z_bd h
                      refine g_callV (a := 137) (as := [.int (1 : Int32)]) (rest := []) (c := mX12_must) (k1 := 2) dX12_readLiteral_114 rfl rfl rfl sh_137 rfl rfl (Nat.le_of_ble_eq_true rfl) (Nat.le_of_ble_eq_true rfl) (by decide) ?_
                      refine A_X12_must e920 ?_
                      show z_G none 5 mX12_readLiteral 117 [some (.ref 139), some (.int a1), some (.int (z_tb q1.1)), some (.int (q914.1 + (6 : Int32)))] [] q919.2 Q
                      refine g_iload_n dX12_readLiteral_117 rfl rfl ?_
                      cases h
                      exact g_iret dX12_readLiteral_118 rfl rfl hq
                  · replace h := z_iff c913 h
                    refine g_iconst (v := (0 : Int32)) dX12_readLiteral_92 (by decide) ?_
                    refine g_goto (t := 111) dX12_readLiteral_93 (by decide) ?_
                    refine g_istore_n (ls' := [some (.ref 139), some (.int a1), some (.int (z_tb q1.1)), some (.int (0 : Int32))]) dX12_readLiteral_111 rfl (Nat.le_of_ble_eq_true rfl) rfl ?_
                    refine g_aload_n dX12_readLiteral_112 rfl rfl ?_
                    refine g_iconst (v := (1 : Int32)) dX12_readLiteral_113 (by decide) ?_
                    obtain ⟨q921, e922, h⟩ := z_bd h
                    refine g_callV (a := 137) (as := [.int (1 : Int32)]) (rest := []) (c := mX12_must) (k1 := 2) dX12_readLiteral_114 rfl rfl rfl sh_137 rfl rfl (Nat.le_of_ble_eq_true rfl) (Nat.le_of_ble_eq_true rfl) (by decide) ?_
                    refine A_X12_must e922 ?_
                    show z_G none 5 mX12_readLiteral 117 [some (.ref 139), some (.int a1), some (.int (z_tb q1.1)), some (.int (0 : Int32))] [] q921.2 Q
                    refine g_iload_n dX12_readLiteral_117 rfl rfl ?_
                    cases h
                    exact g_iret dX12_readLiteral_118 rfl rfl hq
                · replace h := z_iff c912 h
                  refine g_aload_n dX12_readLiteral_76 rfl rfl ?_
                  refine g_iconst (v := (5 : Int32)) dX12_readLiteral_77 (by decide) ?_
                  refine g_aload_n dX12_readLiteral_78 rfl rfl ?_
                  refine g_get (a := 137) (v := .int (q910.2.1 137 15)) dX12_readLiteral_79 f_12_106 sh_137 rfl rfl ?_
                  obtain ⟨q923, e924, h⟩ := z_bd h
                  refine g_callV (a := 137) (as := [.int (5 : Int32), .int (q910.2.1 137 15)]) (rest := []) (c := mX12_fail) (k1 := 0) dX12_readLiteral_82 rfl rfl rfl sh_137 rfl rfl (Nat.le_of_ble_eq_true rfl) (Nat.le_of_ble_eq_true rfl) (by decide) ?_
                  refine A_X12_fail e924 ?_
                  show z_G none 5 mX12_readLiteral 85 [some (.ref 139), some (.int a1), some (.int (z_tb q1.1)), none] [] q923.2 Q
                  refine g_aload_n dX12_readLiteral_85 rfl rfl ?_
                  refine g_get (a := 137) (v := .int (q923.2.1 137 12)) dX12_readLiteral_86 f_12_212 sh_137 rfl rfl ?_
                  refine g_if_le (t := 96) dX12_readLiteral_89 (by decide) (fun c925 => ?_) (fun c925 => ?_)
                  · replace h := z_ift c925 h
                    refine g_aload_n dX12_readLiteral_96 rfl rfl ?_
                    obtain ⟨q926, e927, h⟩ := z_bd h
                    refine g_callV (a := 137) (as := []) (rest := []) (c := mX12_named) (k1 := 0) dX12_readLiteral_97 rfl rfl rfl sh_137 rfl rfl (Nat.le_of_ble_eq_true rfl) (Nat.le_of_ble_eq_true rfl) (by decide) ?_
                    refine A_X12_named e927 ?_
                    show z_G none 5 mX12_readLiteral 100 [some (.ref 139), some (.int a1), some (.int (z_tb q1.1)), none] [.int q926.1] q926.2 Q
                    refine g_iload_n dX12_readLiteral_100 rfl rfl ?_
                    refine g_if_eq (t := 109) dX12_readLiteral_101 (by decide) (fun c928 => ?_) (fun c928 => ?_)
                    · replace h := z_iff (z_tb0.mp c928) h
                      refine g_iconst (v := (0 : Int32)) dX12_readLiteral_109 (by decide) ?_
                      refine g_iadd dX12_readLiteral_110 ?_
                      refine g_istore_n (ls' := [some (.ref 139), some (.int a1), some (.int (z_tb q1.1)), some (.int (q926.1 + (0 : Int32)))]) dX12_readLiteral_111 rfl (Nat.le_of_ble_eq_true rfl) rfl ?_
                      refine g_aload_n dX12_readLiteral_112 rfl rfl ?_
                      refine g_iconst (v := (1 : Int32)) dX12_readLiteral_113 (by decide) ?_
                      obtain ⟨q929, e930, h⟩ := z_bd h
                      refine g_callV (a := 137) (as := [.int (1 : Int32)]) (rest := []) (c := mX12_must) (k1 := 2) dX12_readLiteral_114 rfl rfl rfl sh_137 rfl rfl (Nat.le_of_ble_eq_true rfl) (Nat.le_of_ble_eq_true rfl) (by decide) ?_
                      refine A_X12_must e930 ?_
                      show z_G none 5 mX12_readLiteral 117 [some (.ref 139), some (.int a1), some (.int (z_tb q1.1)), some (.int (q926.1 + (0 : Int32)))] [] q929.2 Q
                      refine g_iload_n dX12_readLiteral_117 rfl rfl ?_
                      cases h
                      exact g_iret dX12_readLiteral_118 rfl rfl hq
                    · replace h := z_ift (z_tbn.mp c928) h
                      refine g_bipush (v := (6 : Int32)) dX12_readLiteral_104 (by decide) ?_
                      refine g_goto (t := 110) dX12_readLiteral_106 (by decide) ?_
                      refine g_iadd dX12_readLiteral_110 ?_
                      refine g_istore_n (ls' := [some (.ref 139), some (.int a1), some (.int (z_tb q1.1)), some (.int (q926.1 + (6 : Int32)))]) dX12_readLiteral_111 rfl (Nat.le_of_ble_eq_true rfl) rfl ?_
                      refine g_aload_n dX12_readLiteral_112 rfl rfl ?_
                      refine g_iconst (v := (1 : Int32)) dX12_readLiteral_113 (by decide) ?_
                      obtain ⟨q931, e932, h⟩ := z_bd h
                      refine g_callV (a := 137) (as := [.int (1 : Int32)]) (rest := []) (c := mX12_must) (k1 := 2) dX12_readLiteral_114 rfl rfl rfl sh_137 rfl rfl (Nat.le_of_ble_eq_true rfl) (Nat.le_of_ble_eq_true rfl) (by decide) ?_
                      refine A_X12_must e932 ?_
                      show z_G none 5 mX12_readLiteral 117 [some (.ref 139), some (.int a1), some (.int (z_tb q1.1)), some (.int (q926.1 + (6 : Int32)))] [] q931.2 Q
                      refine g_iload_n dX12_readLiteral_117 rfl rfl ?_
                      cases h
                      exact g_iret dX12_readLiteral_118 rfl rfl hq
                  · replace h := z_iff c925 h
                    refine g_iconst (v := (0 : Int32)) dX12_readLiteral_92 (by decide) ?_
                    refine g_goto (t := 111) dX12_readLiteral_93 (by decide) ?_
                    refine g_istore_n (ls' := [some (.ref 139), some (.int a1), some (.int (z_tb q1.1)), some (.int (0 : Int32))]) dX12_readLiteral_111 rfl (Nat.le_of_ble_eq_true rfl) rfl ?_
                    refine g_aload_n dX12_readLiteral_112 rfl rfl ?_
                    refine g_iconst (v := (1 : Int32)) dX12_readLiteral_113 (by decide) ?_
                    obtain ⟨q933, e934, h⟩ := z_bd h
                    refine g_callV (a := 137) (as := [.int (1 : Int32)]) (rest := []) (c := mX12_must) (k1 := 2) dX12_readLiteral_114 rfl rfl rfl sh_137 rfl rfl (Nat.le_of_ble_eq_true rfl) (Nat.le_of_ble_eq_true rfl) (by decide) ?_
                    refine A_X12_must e934 ?_
                    show z_G none 5 mX12_readLiteral 117 [some (.ref 139), some (.int a1), some (.int (z_tb q1.1)), some (.int (0 : Int32))] [] q933.2 Q
                    refine g_iload_n dX12_readLiteral_117 rfl rfl ?_
                    cases h
                    exact g_iret dX12_readLiteral_118 rfl rfl hq
    · replace h := z_iff c469 h
      refine g_aload_n dX12_readLiteral_13 rfl rfl ?_
      refine g_iconst (v := (5 : Int32)) dX12_readLiteral_14 (by decide) ?_
      refine g_aload_n dX12_readLiteral_15 rfl rfl ?_
      refine g_get (a := 137) (v := .int (q1.2.1 137 15)) dX12_readLiteral_16 f_12_106 sh_137 rfl rfl ?_
      obtain ⟨q935, e936, h⟩ := z_bd h
      refine g_callV (a := 137) (as := [.int (5 : Int32), .int (q1.2.1 137 15)]) (rest := []) (c := mX12_fail) (k1 := 0) dX12_readLiteral_19 rfl rfl rfl sh_137 rfl rfl (Nat.le_of_ble_eq_true rfl) (Nat.le_of_ble_eq_true rfl) (by decide) ?_
      refine A_X12_fail e936 ?_
      show z_G none 5 mX12_readLiteral 22 [some (.ref 139), some (.int a1), some (.int (z_tb q1.1)), none] [] q935.2 Q
      refine g_iload_n dX12_readLiteral_22 rfl rfl ?_
      refine g_if_eq (t := 31) dX12_readLiteral_23 (by decide) (fun c937 => ?_) (fun c937 => ?_)
      · replace h := z_iff (z_tb0.mp c937) h
        refine g_aload_n dX12_readLiteral_31 rfl rfl ?_
        refine g_get (a := 137) (v := .int (q935.2.1 137 12)) dX12_readLiteral_32 f_12_212 sh_137 rfl rfl ?_
        refine g_if_ne (t := 49) dX12_readLiteral_35 (by decide) (fun c938 => ?_) (fun c938 => ?_)
        · replace h := z_iff c938 h
          refine g_aload_n dX12_readLiteral_49 rfl rfl ?_
          refine g_get (a := 137) (v := .int (q935.2.1 137 12)) dX12_readLiteral_50 f_12_212 sh_137 rfl rfl ?_
          refine g_if_ne (t := 72) dX12_readLiteral_53 (by decide) (fun c939 => ?_) (fun c939 => ?_)
          · replace h := z_iff c939 h
            refine g_iload_n dX12_readLiteral_72 rfl rfl ?_
            refine g_if_eq (t := 85) dX12_readLiteral_73 (by decide) (fun c940 => ?_) (fun c940 => ?_)
            · replace h := z_ift c940 h
              refine g_aload_n dX12_readLiteral_85 rfl rfl ?_
              refine g_get (a := 137) (v := .int (q935.2.1 137 12)) dX12_readLiteral_86 f_12_212 sh_137 rfl rfl ?_
              refine g_if_le (t := 96) dX12_readLiteral_89 (by decide) (fun c941 => ?_) (fun c941 => ?_)
              · replace h := z_ift c941 h
                refine g_aload_n dX12_readLiteral_96 rfl rfl ?_
                obtain ⟨q942, e943, h⟩ := z_bd h
                refine g_callV (a := 137) (as := []) (rest := []) (c := mX12_named) (k1 := 0) dX12_readLiteral_97 rfl rfl rfl sh_137 rfl rfl (Nat.le_of_ble_eq_true rfl) (Nat.le_of_ble_eq_true rfl) (by decide) ?_
                refine A_X12_named e943 ?_
                show z_G none 5 mX12_readLiteral 100 [some (.ref 139), some (.int a1), some (.int (z_tb q1.1)), none] [.int q942.1] q942.2 Q
                refine g_iload_n dX12_readLiteral_100 rfl rfl ?_
                refine g_if_eq (t := 109) dX12_readLiteral_101 (by decide) (fun c944 => ?_) (fun c944 => ?_)
                · replace h := z_iff (z_tb0.mp c944) h
                  refine g_iconst (v := (0 : Int32)) dX12_readLiteral_109 (by decide) ?_
                  refine g_iadd dX12_readLiteral_110 ?_
                  refine g_istore_n (ls' := [some (.ref 139), some (.int a1), some (.int (z_tb q1.1)), some (.int (q942.1 + (0 : Int32)))]) dX12_readLiteral_111 rfl (Nat.le_of_ble_eq_true rfl) rfl ?_
                  refine g_aload_n dX12_readLiteral_112 rfl rfl ?_
                  refine g_iconst (v := (1 : Int32)) dX12_readLiteral_113 (by decide) ?_
                  obtain ⟨q945, e946, h⟩ := z_bd h
                  refine g_callV (a := 137) (as := [.int (1 : Int32)]) (rest := []) (c := mX12_must) (k1 := 2) dX12_readLiteral_114 rfl rfl rfl sh_137 rfl rfl (Nat.le_of_ble_eq_true rfl) (Nat.le_of_ble_eq_true rfl) (by decide) ?_
                  refine A_X12_must e946 ?_
                  show z_G none 5 mX12_readLiteral 117 [some (.ref 139), some (.int a1), some (.int (z_tb q1.1)), some (.int (q942.1 + (0 : Int32)))] [] q945.2 Q
                  refine g_iload_n dX12_readLiteral_117 rfl rfl ?_
                  cases h
                  exact g_iret dX12_readLiteral_118 rfl rfl hq
                · replace h := z_ift (z_tbn.mp c944) h
                  refine g_bipush (v := (6 : Int32)) dX12_readLiteral_104 (by decide) ?_
                  refine g_goto (t := 110) dX12_readLiteral_106 (by decide) ?_
                  refine g_iadd dX12_readLiteral_110 ?_
                  refine g_istore_n (ls' := [some (.ref 139), some (.int a1), some (.int (z_tb q1.1)), some (.int (q942.1 + (6 : Int32)))]) dX12_readLiteral_111 rfl (Nat.le_of_ble_eq_true rfl) rfl ?_
                  refine g_aload_n dX12_readLiteral_112 rfl rfl ?_
                  refine g_iconst (v := (1 : Int32)) dX12_readLiteral_113 (by decide) ?_
                  obtain ⟨q947, e948, h⟩ := z_bd h
                  refine g_callV (a := 137) (as := [.int (1 : Int32)]) (rest := []) (c := mX12_must) (k1 := 2) dX12_readLiteral_114 rfl rfl rfl sh_137 rfl rfl (Nat.le_of_ble_eq_true rfl) (Nat.le_of_ble_eq_true rfl) (by decide) ?_
                  refine A_X12_must e948 ?_
                  show z_G none 5 mX12_readLiteral 117 [some (.ref 139), some (.int a1), some (.int (z_tb q1.1)), some (.int (q942.1 + (6 : Int32)))] [] q947.2 Q
                  refine g_iload_n dX12_readLiteral_117 rfl rfl ?_
                  cases h
                  exact g_iret dX12_readLiteral_118 rfl rfl hq
              · replace h := z_iff c941 h
                refine g_iconst (v := (0 : Int32)) dX12_readLiteral_92 (by decide) ?_
                refine g_goto (t := 111) dX12_readLiteral_93 (by decide) ?_
                refine g_istore_n (ls' := [some (.ref 139), some (.int a1), some (.int (z_tb q1.1)), some (.int (0 : Int32))]) dX12_readLiteral_111 rfl (Nat.le_of_ble_eq_true rfl) rfl ?_
                refine g_aload_n dX12_readLiteral_112 rfl rfl ?_
                refine g_iconst (v := (1 : Int32)) dX12_readLiteral_113 (by decide) ?_
                obtain ⟨q949, e950, h⟩ := z_bd h
                refine g_callV (a := 137) (as := [.int (1 : Int32)]) (rest := []) (c := mX12_must) (k1 := 2) dX12_readLiteral_114 rfl rfl rfl sh_137 rfl rfl (Nat.le_of_ble_eq_true rfl) (Nat.le_of_ble_eq_true rfl) (by decide) ?_
                refine A_X12_must e950 ?_
                show z_G none 5 mX12_readLiteral 117 [some (.ref 139), some (.int a1), some (.int (z_tb q1.1)), some (.int (0 : Int32))] [] q949.2 Q
                refine g_iload_n dX12_readLiteral_117 rfl rfl ?_
                cases h
                exact g_iret dX12_readLiteral_118 rfl rfl hq
            · replace h := z_iff c940 h
              refine g_aload_n dX12_readLiteral_76 rfl rfl ?_
              refine g_iconst (v := (5 : Int32)) dX12_readLiteral_77 (by decide) ?_
              refine g_aload_n dX12_readLiteral_78 rfl rfl ?_
              refine g_get (a := 137) (v := .int (q935.2.1 137 15)) dX12_readLiteral_79 f_12_106 sh_137 rfl rfl ?_
              obtain ⟨q951, e952, h⟩ := z_bd h
              refine g_callV (a := 137) (as := [.int (5 : Int32), .int (q935.2.1 137 15)]) (rest := []) (c := mX12_fail) (k1 := 0) dX12_readLiteral_82 rfl rfl rfl sh_137 rfl rfl (Nat.le_of_ble_eq_true rfl) (Nat.le_of_ble_eq_true rfl) (by decide) ?_
              refine A_X12_fail e952 ?_
              show z_G none 5 mX12_readLiteral 85 [some (.ref 139), some (.int a1), some (.int (z_tb q1.1)), none] [] q951.2 Q
              refine g_aload_n dX12_readLiteral_85 rfl rfl ?_
              refine g_get (a := 137) (v := .int (q951.2.1 137 12)) dX12_readLiteral_86 f_12_212 sh_137 rfl rfl ?_
              refine g_if_le (t := 96) dX12_readLiteral_89 (by decide) (fun c953 => ?_) (fun c953 => ?_)
              · replace h := z_ift c953 h
                refine g_aload_n dX12_readLiteral_96 rfl rfl ?_
                obtain ⟨q954, e955, h⟩ := z_bd h
                refine g_callV (a := 137) (as := []) (rest := []) (c := mX12_named) (k1 := 0) dX12_readLiteral_97 rfl rfl rfl sh_137 rfl rfl (Nat.le_of_ble_eq_true rfl) (Nat.le_of_ble_eq_true rfl) (by decide) ?_
                refine A_X12_named e955 ?_
                show z_G none 5 mX12_readLiteral 100 [some (.ref 139), some (.int a1), some (.int (z_tb q1.1)), none] [.int q954.1] q954.2 Q
                refine g_iload_n dX12_readLiteral_100 rfl rfl ?_
                refine g_if_eq (t := 109) dX12_readLiteral_101 (by decide) (fun c956 => ?_) (fun c956 => ?_)
                · replace h := z_iff (z_tb0.mp c956) h
                  refine g_iconst (v := (0 : Int32)) dX12_readLiteral_109 (by decide) ?_
                  refine g_iadd dX12_readLiteral_110 ?_
                  refine g_istore_n (ls' := [some (.ref 139), some (.int a1), some (.int (z_tb q1.1)), some (.int (q954.1 + (0 : Int32)))]) dX12_readLiteral_111 rfl (Nat.le_of_ble_eq_true rfl) rfl ?_
                  refine g_aload_n dX12_readLiteral_112 rfl rfl ?_
                  refine g_iconst (v := (1 : Int32)) dX12_readLiteral_113 (by decide) ?_
                  obtain ⟨q957, e958, h⟩ := z_bd h
                  refine g_callV (a := 137) (as := [.int (1 : Int32)]) (rest := []) (c := mX12_must) (k1 := 2) dX12_readLiteral_114 rfl rfl rfl sh_137 rfl rfl (Nat.le_of_ble_eq_true rfl) (Nat.le_of_ble_eq_true rfl) (by decide) ?_
                  refine A_X12_must e958 ?_
                  show z_G none 5 mX12_readLiteral 117 [some (.ref 139), some (.int a1), some (.int (z_tb q1.1)), some (.int (q954.1 + (0 : Int32)))] [] q957.2 Q
                  refine g_iload_n dX12_readLiteral_117 rfl rfl ?_
                  cases h
                  exact g_iret dX12_readLiteral_118 rfl rfl hq
                · replace h := z_ift (z_tbn.mp c956) h
                  refine g_bipush (v := (6 : Int32)) dX12_readLiteral_104 (by decide) ?_
                  refine g_goto (t := 110) dX12_readLiteral_106 (by decide) ?_
                  refine g_iadd dX12_readLiteral_110 ?_
                  refine g_istore_n (ls' := [some (.ref 139), some (.int a1), some (.int (z_tb q1.1)), some (.int (q954.1 + (6 : Int32)))]) dX12_readLiteral_111 rfl (Nat.le_of_ble_eq_true rfl) rfl ?_
                  refine g_aload_n dX12_readLiteral_112 rfl rfl ?_
                  refine g_iconst (v := (1 : Int32)) dX12_readLiteral_113 (by decide) ?_
                  obtain ⟨q959, e960, h⟩ := z_bd h
                  refine g_callV (a := 137) (as := [.int (1 : Int32)]) (rest := []) (c := mX12_must) (k1 := 2) dX12_readLiteral_114 rfl rfl rfl sh_137 rfl rfl (Nat.le_of_ble_eq_true rfl) (Nat.le_of_ble_eq_true rfl) (by decide) ?_
                  refine A_X12_must e960 ?_
                  show z_G none 5 mX12_readLiteral 117 [some (.ref 139), some (.int a1), some (.int (z_tb q1.1)), some (.int (q954.1 + (6 : Int32)))] [] q959.2 Q
                  refine g_iload_n dX12_readLiteral_117 rfl rfl ?_
                  cases h
                  exact g_iret dX12_readLiteral_118 rfl rfl hq
              · replace h := z_iff c953 h
                refine g_iconst (v := (0 : Int32)) dX12_readLiteral_92 (by decide) ?_
                refine g_goto (t := 111) dX12_readLiteral_93 (by decide) ?_
                refine g_istore_n (ls' := [some (.ref 139), some (.int a1), some (.int (z_tb q1.1)), some (.int (0 : Int32))]) dX12_readLiteral_111 rfl (Nat.le_of_ble_eq_true rfl) rfl ?_
                refine g_aload_n dX12_readLiteral_112 rfl rfl ?_
                refine g_iconst (v := (1 : Int32)) dX12_readLiteral_113 (by decide) ?_
                obtain ⟨q961, e962, h⟩ := z_bd h
                refine g_callV (a := 137) (as := [.int (1 : Int32)]) (rest := []) (c := mX12_must) (k1 := 2) dX12_readLiteral_114 rfl rfl rfl sh_137 rfl rfl (Nat.le_of_ble_eq_true rfl) (Nat.le_of_ble_eq_true rfl) (by decide) ?_
                refine A_X12_must e962 ?_
                show z_G none 5 mX12_readLiteral 117 [some (.ref 139), some (.int a1), some (.int (z_tb q1.1)), some (.int (0 : Int32))] [] q961.2 Q
                refine g_iload_n dX12_readLiteral_117 rfl rfl ?_
                cases h
                exact g_iret dX12_readLiteral_118 rfl rfl hq
          · replace h := z_ift c939 h
            refine g_aload_n dX12_readLiteral_56 rfl rfl ?_
            obtain ⟨q963, e964, h⟩ := z_bd h
            refine g_callV (a := 137) (as := []) (rest := []) (c := mX12_named) (k1 := 0) dX12_readLiteral_57 rfl rfl rfl sh_137 rfl rfl (Nat.le_of_ble_eq_true rfl) (Nat.le_of_ble_eq_true rfl) (by decide) ?_
            refine A_X12_named e964 ?_
            show z_G none 5 mX12_readLiteral 60 [some (.ref 139), some (.int a1), some (.int (z_tb q1.1)), none] [.int q963.1] q963.2 Q
            refine g_if_ge (t := 72) dX12_readLiteral_60 (by decide) (fun c965 => ?_) (fun c965 => ?_)
            · replace h := z_ift c965 h
              refine g_iload_n dX12_readLiteral_72 rfl rfl ?_
              refine g_if_eq (t := 85) dX12_readLiteral_73 (by decide) (fun c966 => ?_) (fun c966 => ?_)
              · replace h := z_ift c966 h
                refine g_aload_n dX12_readLiteral_85 rfl rfl ?_
                refine g_get (a := 137) (v := .int (q963.2.1 137 12)) dX12_readLiteral_86 f_12_212 sh_137 rfl rfl ?_
                refine g_if_le (t := 96) dX12_readLiteral_89 (by decide) (fun c967 => ?_) (fun c967 => ?_)
                · replace h := z_ift c967 h
                  refine g_aload_n dX12_readLiteral_96 rfl rfl ?_
                  obtain ⟨q968, e969, h⟩ := z_bd h
                  refine g_callV (a := 137) (as := []) (rest := []) (c := mX12_named) (k1 := 0) dX12_readLiteral_97 rfl rfl rfl sh_137 rfl rfl (Nat.le_of_ble_eq_true rfl) (Nat.le_of_ble_eq_true rfl) (by decide) ?_
                  refine A_X12_named e969 ?_
                  show z_G none 5 mX12_readLiteral 100 [some (.ref 139), some (.int a1), some (.int (z_tb q1.1)), none] [.int q968.1] q968.2 Q
                  refine g_iload_n dX12_readLiteral_100 rfl rfl ?_
                  refine g_if_eq (t := 109) dX12_readLiteral_101 (by decide) (fun c970 => ?_) (fun c970 => ?_)
                  · replace h := z_iff (z_tb0.mp c970) h
                    refine g_iconst (v := (0 : Int32)) dX12_readLiteral_109 (by decide) ?_
                    refine g_iadd dX12_readLiteral_110 ?_
                    refine g_istore_n (ls' := [some (.ref 139), some (.int a1), some (.int (z_tb q1.1)), some (.int (q968.1 + (0 : Int32)))]) dX12_readLiteral_111 rfl (Nat.le_of_ble_eq_true rfl) rfl ?_
                    refine g_aload_n dX12_readLiteral_112 rfl rfl ?_
                    refine g_iconst (v := (1 : Int32)) dX12_readLiteral_113 (by decide) ?_
                    obtain ⟨q971, e972, h⟩ := z_bd h
                    refine g_callV (a := 137) (as := [.int (1 : Int32)]) (rest := []) (c := mX12_must) (k1 := 2) dX12_readLiteral_114 rfl rfl rfl sh_137 rfl rfl (Nat.le_of_ble_eq_true rfl) (Nat.le_of_ble_eq_true rfl) (by decide) ?_
                    refine A_X12_must e972 ?_
                    show z_G none 5 mX12_readLiteral 117 [some (.ref 139), some (.int a1), some (.int (z_tb q1.1)), some (.int (q968.1 + (0 : Int32)))] [] q971.2 Q
                    refine g_iload_n dX12_readLiteral_117 rfl rfl ?_
                    cases h
                    exact g_iret dX12_readLiteral_118 rfl rfl hq
                  · replace h := z_ift (z_tbn.mp c970) h
                    refine g_bipush (v := (6 : Int32)) dX12_readLiteral_104 (by decide) ?_
                    refine g_goto (t := 110) dX12_readLiteral_106 (by decide) ?_
                    refine g_iadd dX12_readLiteral_110 ?_
                    refine g_istore_n (ls' := [some (.ref 139), some (.int a1), some (.int (z_tb q1.1)), some (.int (q968.1 + (6 : Int32)))]) dX12_readLiteral_111 rfl (Nat.le_of_ble_eq_true rfl) rfl ?_
                    refine g_aload_n dX12_readLiteral_112 rfl rfl ?_
                    refine g_iconst (v := (1 : Int32)) dX12_readLiteral_113 (by decide) ?_
                    obtain ⟨q973, e974, h⟩ := z_bd h
                    refine g_callV (a := 137) (as := [.int (1 : Int32)]) (rest := []) (c := mX12_must) (k1 := 2) dX12_readLiteral_114 rfl rfl rfl sh_137 rfl rfl (Nat.le_of_ble_eq_true rfl) (Nat.le_of_ble_eq_true rfl) (by decide) ?_
                    refine A_X12_must e974 ?_
                    show z_G none 5 mX12_readLiteral 117 [some (.ref 139), some (.int a1), some (.int (z_tb q1.1)), some (.int (q968.1 + (6 : Int32)))] [] q973.2 Q
                    refine g_iload_n dX12_readLiteral_117 rfl rfl ?_
                    cases h
                    exact g_iret dX12_readLiteral_118 rfl rfl hq
                · replace h := z_iff c967 h
                  refine g_iconst (v := (0 : Int32)) dX12_readLiteral_92 (by decide) ?_
                  refine g_goto (t := 111) dX12_readLiteral_93 (by decide) ?_
                  refine g_istore_n (ls' := [some (.ref 139), some (.int a1), some (.int (z_tb q1.1)), some (.int (0 : Int32))]) dX12_readLiteral_111 rfl (Nat.le_of_ble_eq_true rfl) rfl ?_
                  refine g_aload_n dX12_readLiteral_112 rfl rfl ?_
                  refine g_iconst (v := (1 : Int32)) dX12_readLiteral_113 (by decide) ?_
                  obtain ⟨q975, e976, h⟩ := z_bd h
                  refine g_callV (a := 137) (as := [.int (1 : Int32)]) (rest := []) (c := mX12_must) (k1 := 2) dX12_readLiteral_114 rfl rfl rfl sh_137 rfl rfl (Nat.le_of_ble_eq_true rfl) (Nat.le_of_ble_eq_true rfl) (by decide) ?_
                  refine A_X12_must e976 ?_
                  show z_G none 5 mX12_readLiteral 117 [some (.ref 139), some (.int a1), some (.int (z_tb q1.1)), some (.int (0 : Int32))] [] q975.2 Q
                  refine g_iload_n dX12_readLiteral_117 rfl rfl ?_
                  cases h
                  exact g_iret dX12_readLiteral_118 rfl rfl hq
              · replace h := z_iff c966 h
                refine g_aload_n dX12_readLiteral_76 rfl rfl ?_
                refine g_iconst (v := (5 : Int32)) dX12_readLiteral_77 (by decide) ?_
                refine g_aload_n dX12_readLiteral_78 rfl rfl ?_
                refine g_get (a := 137) (v := .int (q963.2.1 137 15)) dX12_readLiteral_79 f_12_106 sh_137 rfl rfl ?_
                obtain ⟨q977, e978, h⟩ := z_bd h
                refine g_callV (a := 137) (as := [.int (5 : Int32), .int (q963.2.1 137 15)]) (rest := []) (c := mX12_fail) (k1 := 0) dX12_readLiteral_82 rfl rfl rfl sh_137 rfl rfl (Nat.le_of_ble_eq_true rfl) (Nat.le_of_ble_eq_true rfl) (by decide) ?_
                refine A_X12_fail e978 ?_
                show z_G none 5 mX12_readLiteral 85 [some (.ref 139), some (.int a1), some (.int (z_tb q1.1)), none] [] q977.2 Q
                refine g_aload_n dX12_readLiteral_85 rfl rfl ?_
                refine g_get (a := 137) (v := .int (q977.2.1 137 12)) dX12_readLiteral_86 f_12_212 sh_137 rfl rfl ?_
                refine g_if_le (t := 96) dX12_readLiteral_89 (by decide) (fun c979 => ?_) (fun c979 => ?_)
                · replace h := z_ift c979 h
                  refine g_aload_n dX12_readLiteral_96 rfl rfl ?_
                  obtain ⟨q980, e981, h⟩ := z_bd h
                  refine g_callV (a := 137) (as := []) (rest := []) (c := mX12_named) (k1 := 0) dX12_readLiteral_97 rfl rfl rfl sh_137 rfl rfl (Nat.le_of_ble_eq_true rfl) (Nat.le_of_ble_eq_true rfl) (by decide) ?_
                  refine A_X12_named e981 ?_
                  show z_G none 5 mX12_readLiteral 100 [some (.ref 139), some (.int a1), some (.int (z_tb q1.1)), none] [.int q980.1] q980.2 Q
                  refine g_iload_n dX12_readLiteral_100 rfl rfl ?_
                  refine g_if_eq (t := 109) dX12_readLiteral_101 (by decide) (fun c982 => ?_) (fun c982 => ?_)
                  · replace h := z_iff (z_tb0.mp c982) h
                    refine g_iconst (v := (0 : Int32)) dX12_readLiteral_109 (by decide) ?_
                    refine g_iadd dX12_readLiteral_110 ?_
                    refine g_istore_n (ls' := [some (.ref 139), some (.int a1), some (.int (z_tb q1.1)), some (.int (q980.1 + (0 : Int32)))]) dX12_readLiteral_111 rfl (Nat.le_of_ble_eq_true rfl) rfl ?_
                    refine g_aload_n dX12_readLiteral_112 rfl rfl ?_
                    refine g_iconst (v := (1 : Int32)) dX12_readLiteral_113 (by decide) ?_
                    obtain ⟨q983, e984, h⟩ := z_bd h
                    refine g_callV (a := 137) (as := [.int (1 : Int32)]) (rest := []) (c := mX12_must) (k1 := 2) dX12_readLiteral_114 rfl rfl rfl sh_137 rfl rfl (Nat.le_of_ble_eq_true rfl) (Nat.le_of_ble_eq_true rfl) (by decide) ?_
                    refine A_X12_must e984 ?_
                    show z_G none 5 mX12_readLiteral 117 [some (.ref 139), some (.int a1), some (.int (z_tb q1.1)), some (.int (q980.1 + (0 : Int32)))] [] q983.2 Q
                    refine g_iload_n dX12_readLiteral_117 rfl rfl ?_
                    cases h
                    exact g_iret dX12_readLiteral_118 rfl rfl hq
                  · replace h := z_ift (z_tbn.mp c982) h
                    refine g_bipush (v := (6 : Int32)) dX12_readLiteral_104 (by decide) ?_
                    refine g_goto (t := 110) dX12_readLiteral_106 (by decide) ?_
                    refine g_iadd dX12_readLiteral_110 ?_
                    refine g_istore_n (ls' := [some (.ref 139), some (.int a1), some (.int (z_tb q1.1)), some (.int (q980.1 + (6 : Int32)))]) dX12_readLiteral_111 rfl (Nat.le_of_ble_eq_true rfl) rfl ?_
                    refine g_aload_n dX12_readLiteral_112 rfl rfl ?_
                    refine g_iconst (v := (1 : Int32)) dX12_readLiteral_113 (by decide) ?_
                    obtain ⟨q985, e986, h⟩ := z_bd h
                    refine g_callV (a := 137) (as := [.int (1 : Int32)]) (rest := []) (c := mX12_must) (k1 := 2) dX12_readLiteral_114 rfl rfl rfl sh_137 rfl rfl (Nat.le_of_ble_eq_true rfl) (Nat.le_of_ble_eq_true rfl) (by decide) ?_
                    refine A_X12_must e986 ?_
                    show z_G none 5 mX12_readLiteral 117 [some (.ref 139), some (.int a1), some (.int (z_tb q1.1)), some (.int (q980.1 + (6 : Int32)))] [] q985.2 Q
                    refine g_iload_n dX12_readLiteral_117 rfl rfl ?_
                    cases h
                    exact g_iret dX12_readLiteral_118 rfl rfl hq
                · replace h := z_iff c979 h
                  refine g_iconst (v := (0 : Int32)) dX12_readLiteral_92 (by decide) ?_
                  refine g_goto (t := 111) dX12_readLiteral_93 (by decide) ?_
                  refine g_istore_n (ls' := [some (.ref 139), some (.int a1), some (.int (z_tb q1.1)), some (.int (0 : Int32))]) dX12_readLiteral_111 rfl (Nat.le_of_ble_eq_true rfl) rfl ?_
                  refine g_aload_n dX12_readLiteral_112 rfl rfl ?_
                  refine g_iconst (v := (1 : Int32)) dX12_readLiteral_113 (by decide) ?_
                  obtain ⟨q987, e988, h⟩ := z_bd h
                  refine g_callV (a := 137) (as := [.int (1 : Int32)]) (rest := []) (c := mX12_must) (k1 := 2) dX12_readLiteral_114 rfl rfl rfl sh_137 rfl rfl (Nat.le_of_ble_eq_true rfl) (Nat.le_of_ble_eq_true rfl) (by decide) ?_
                  refine A_X12_must e988 ?_
                  show z_G none 5 mX12_readLiteral 117 [some (.ref 139), some (.int a1), some (.int (z_tb q1.1)), some (.int (0 : Int32))] [] q987.2 Q
                  refine g_iload_n dX12_readLiteral_117 rfl rfl ?_
                  cases h
                  exact g_iret dX12_readLiteral_118 rfl rfl hq
            · replace h := z_iff c965 h
              refine g_aload_n dX12_readLiteral_63 rfl rfl ?_
              refine g_iconst (v := (3 : Int32)) dX12_readLiteral_64 (by decide) ?_
              refine g_aload_n dX12_readLiteral_65 rfl rfl ?_
              refine g_get (a := 137) (v := .int (q963.2.1 137 15)) dX12_readLiteral_66 f_12_106 sh_137 rfl rfl ?_
              obtain ⟨q989, e990, h⟩ := z_bd h
              refine g_callV (a := 137) (as := [.int (3 : Int32), .int (q963.2.1 137 15)]) (rest := []) (c := mX12_fail) (k1 := 0) dX12_readLiteral_69 rfl rfl rfl sh_137 rfl rfl (Nat.le_of_ble_eq_true rfl) (Nat.le_of_ble_eq_true rfl) (by decide) ?_
              refine A_X12_fail e990 ?_
              show z_G none 5 mX12_readLiteral 72 [some (.ref 139), some (.int a1), some (.int (z_tb q1.1)), none] [] q989.2 Q
              refine g_iload_n dX12_readLiteral_72 rfl rfl ?_
              refine g_if_eq (t := 85) dX12_readLiteral_73 (by decide) (fun c991 => ?_) (fun c991 => ?_)
              · replace h := z_ift c991 h
                refine g_aload_n dX12_readLiteral_85 rfl rfl ?_
                refine g_get (a := 137) (v := .int (q989.2.1 137 12)) dX12_readLiteral_86 f_12_212 sh_137 rfl rfl ?_
                refine g_if_le (t := 96) dX12_readLiteral_89 (by decide) (fun c992 => ?_) (fun c992 => ?_)
                · replace h := z_ift c992 h
                  refine g_aload_n dX12_readLiteral_96 rfl rfl ?_
                  obtain ⟨q993, e994, h⟩ := z_bd h
                  refine g_callV (a := 137) (as := []) (rest := []) (c := mX12_named) (k1 := 0) dX12_readLiteral_97 rfl rfl rfl sh_137 rfl rfl (Nat.le_of_ble_eq_true rfl) (Nat.le_of_ble_eq_true rfl) (by decide) ?_
                  refine A_X12_named e994 ?_
                  show z_G none 5 mX12_readLiteral 100 [some (.ref 139), some (.int a1), some (.int (z_tb q1.1)), none] [.int q993.1] q993.2 Q
                  refine g_iload_n dX12_readLiteral_100 rfl rfl ?_
                  refine g_if_eq (t := 109) dX12_readLiteral_101 (by decide) (fun c995 => ?_) (fun c995 => ?_)
                  · replace h := z_iff (z_tb0.mp c995) h
                    refine g_iconst (v := (0 : Int32)) dX12_readLiteral_109 (by decide) ?_
                    refine g_iadd dX12_readLiteral_110 ?_
                    refine g_istore_n (ls' := [some (.ref 139), some (.int a1), some (.int (z_tb q1.1)), some (.int (q993.1 + (0 : Int32)))]) dX12_readLiteral_111 rfl (Nat.le_of_ble_eq_true rfl) rfl ?_
                    refine g_aload_n dX12_readLiteral_112 rfl rfl ?_
                    refine g_iconst (v := (1 : Int32)) dX12_readLiteral_113 (by decide) ?_
                    obtain ⟨q996, e997, h⟩ := z_bd h
                    refine g_callV (a := 137) (as := [.int (1 : Int32)]) (rest := []) (c := mX12_must) (k1 := 2) dX12_readLiteral_114 rfl rfl rfl sh_137 rfl rfl (Nat.le_of_ble_eq_true rfl) (Nat.le_of_ble_eq_true rfl) (by decide) ?_
                    refine A_X12_must e997 ?_
                    show z_G none 5 mX12_readLiteral 117 [some (.ref 139), some (.int a1), some (.int (z_tb q1.1)), some (.int (q993.1 + (0 : Int32)))] [] q996.2 Q
                    refine g_iload_n dX12_readLiteral_117 rfl rfl ?_
                    cases h
                    exact g_iret dX12_readLiteral_118 rfl rfl hq
                  · replace h := z_ift (z_tbn.mp c995) h
                    refine g_bipush (v := (6 : Int32)) dX12_readLiteral_104 (by decide) ?_
                    refine g_goto (t := 110) dX12_readLiteral_106 (by decide) ?_
                    refine g_iadd dX12_readLiteral_110 ?_
                    refine g_istore_n (ls' := [some (.ref 139), some (.int a1), some (.int (z_tb q1.1)), some (.int (q993.1 + (6 : Int32)))]) dX12_readLiteral_111 rfl (Nat.le_of_ble_eq_true rfl) rfl ?_
                    refine g_aload_n dX12_readLiteral_112 rfl rfl ?_
                    refine g_iconst (v := (1 : Int32)) dX12_readLiteral_113 (by decide) ?_
                    obtain ⟨q998, e999, h⟩ := z_bd h
                    refine g_callV (a := 137) (as := [.int (1 : Int32)]) (rest := []) (c := mX12_must) (k1 := 2) dX12_readLiteral_114 rfl rfl rfl sh_137 rfl rfl (Nat.le_of_ble_eq_true rfl) (Nat.le_of_ble_eq_true rfl) (by decide) ?_
                    refine A_X12_must e999 ?_
                    show z_G none 5 mX12_readLiteral 117 [some (.ref 139), some (.int a1), some (.int (z_tb q1.1)), some (.int (q993.1 + (6 : Int32)))] [] q998.2 Q
                    refine g_iload_n dX12_readLiteral_117 rfl rfl ?_
                    cases h
                    exact g_iret dX12_readLiteral_118 rfl rfl hq
                · replace h := z_iff c992 h
                  refine g_iconst (v := (0 : Int32)) dX12_readLiteral_92 (by decide) ?_
                  refine g_goto (t := 111) dX12_readLiteral_93 (by decide) ?_
                  refine g_istore_n (ls' := [some (.ref 139), some (.int a1), some (.int (z_tb q1.1)), some (.int (0 : Int32))]) dX12_readLiteral_111 rfl (Nat.le_of_ble_eq_true rfl) rfl ?_
                  refine g_aload_n dX12_readLiteral_112 rfl rfl ?_
                  refine g_iconst (v := (1 : Int32)) dX12_readLiteral_113 (by decide) ?_
                  obtain ⟨q1000, e1001, h⟩ := z_bd h
                  refine g_callV (a := 137) (as := [.int (1 : Int32)]) (rest := []) (c := mX12_must) (k1 := 2) dX12_readLiteral_114 rfl rfl rfl sh_137 rfl rfl (Nat.le_of_ble_eq_true rfl) (Nat.le_of_ble_eq_true rfl) (by decide) ?_
                  refine A_X12_must e1001 ?_
                  show z_G none 5 mX12_readLiteral 117 [some (.ref 139), some (.int a1), some (.int (z_tb q1.1)), some (.int (0 : Int32))] [] q1000.2 Q
                  refine g_iload_n dX12_readLiteral_117 rfl rfl ?_
                  cases h
                  exact g_iret dX12_readLiteral_118 rfl rfl hq
              · replace h := z_iff c991 h
                refine g_aload_n dX12_readLiteral_76 rfl rfl ?_
                refine g_iconst (v := (5 : Int32)) dX12_readLiteral_77 (by decide) ?_
                refine g_aload_n dX12_readLiteral_78 rfl rfl ?_
                refine g_get (a := 137) (v := .int (q989.2.1 137 15)) dX12_readLiteral_79 f_12_106 sh_137 rfl rfl ?_
                obtain ⟨q1002, e1003, h⟩ := z_bd h
                refine g_callV (a := 137) (as := [.int (5 : Int32), .int (q989.2.1 137 15)]) (rest := []) (c := mX12_fail) (k1 := 0) dX12_readLiteral_82 rfl rfl rfl sh_137 rfl rfl (Nat.le_of_ble_eq_true rfl) (Nat.le_of_ble_eq_true rfl) (by decide) ?_
                refine A_X12_fail e1003 ?_
                show z_G none 5 mX12_readLiteral 85 [some (.ref 139), some (.int a1), some (.int (z_tb q1.1)), none] [] q1002.2 Q
                refine g_aload_n dX12_readLiteral_85 rfl rfl ?_
                refine g_get (a := 137) (v := .int (q1002.2.1 137 12)) dX12_readLiteral_86 f_12_212 sh_137 rfl rfl ?_
                refine g_if_le (t := 96) dX12_readLiteral_89 (by decide) (fun c1004 => ?_) (fun c1004 => ?_)
                · replace h := z_ift c1004 h
                  refine g_aload_n dX12_readLiteral_96 rfl rfl ?_
                  obtain ⟨q1005, e1006, h⟩ := z_bd h
                  refine g_callV (a := 137) (as := []) (rest := []) (c := mX12_named) (k1 := 0) dX12_readLiteral_97 rfl rfl rfl sh_137 rfl rfl (Nat.le_of_ble_eq_true rfl) (Nat.le_of_ble_eq_true rfl) (by decide) ?_
                  refine A_X12_named e1006 ?_
                  show z_G none 5 mX12_readLiteral 100 [some (.ref 139), some (.int a1), some (.int (z_tb q1.1)), none] [.int q1005.1] q1005.2 Q
                  refine g_iload_n dX12_readLiteral_100 rfl rfl ?_
                  refine g_if_eq (t := 109) dX12_readLiteral_101 (by decide) (fun c1007 => ?_) (fun c1007 => ?_)
                  · replace h := z_iff (z_tb0.mp c1007) h
                    refine g_iconst (v := (0 : Int32)) dX12_readLiteral_109 (by decide) ?_
                    refine g_iadd dX12_readLiteral_110 ?_
                    refine g_istore_n (ls' := [some (.ref 139), some (.int a1), some (.int (z_tb q1.1)), some (.int (q1005.1 + (0 : Int32)))]) dX12_readLiteral_111 rfl (Nat.le_of_ble_eq_true rfl) rfl ?_
                    refine g_aload_n dX12_readLiteral_112 rfl rfl ?_
                    refine g_iconst (v := (1 : Int32)) dX12_readLiteral_113 (by decide) ?_
                    obtain ⟨q1008, e1009, h⟩ := z_bd h
                    refine g_callV (a := 137) (as := [.int (1 : Int32)]) (rest := []) (c := mX12_must) (k1 := 2) dX12_readLiteral_114 rfl rfl rfl sh_137 rfl rfl (Nat.le_of_ble_eq_true rfl) (Nat.le_of_ble_eq_true rfl) (by decide) ?_
                    refine A_X12_must e1009 ?_
                    show z_G none 5 mX12_readLiteral 117 [some (.ref 139), some (.int a1), some (.int (z_tb q1.1)), some (.int (q1005.1 + (0 : Int32)))] [] q1008.2 Q
                    refine g_iload_n dX12_readLiteral_117 rfl rfl ?_
                    cases h
                    exact g_iret dX12_readLiteral_118 rfl rfl hq
                  · replace h := z_ift (z_tbn.mp c1007) h
                    refine g_bipush (v := (6 : Int32)) dX12_readLiteral_104 (by decide) ?_
                    refine g_goto (t := 110) dX12_readLiteral_106 (by decide) ?_
                    refine g_iadd dX12_readLiteral_110 ?_
                    refine g_istore_n (ls' := [some (.ref 139), some (.int a1), some (.int (z_tb q1.1)), some (.int (q1005.1 + (6 : Int32)))]) dX12_readLiteral_111 rfl (Nat.le_of_ble_eq_true rfl) rfl ?_
                    refine g_aload_n dX12_readLiteral_112 rfl rfl ?_
                    refine g_iconst (v := (1 : Int32)) dX12_readLiteral_113 (by decide) ?_
                    obtain ⟨q1010, e1011, h⟩ := z_bd h
                    refine g_callV (a := 137) (as := [.int (1 : Int32)]) (rest := []) (c := mX12_must) (k1 := 2) dX12_readLiteral_114 rfl rfl rfl sh_137 rfl rfl (Nat.le_of_ble_eq_true rfl) (Nat.le_of_ble_eq_true rfl) (by decide) ?_
                    refine A_X12_must e1011 ?_
                    show z_G none 5 mX12_readLiteral 117 [some (.ref 139), some (.int a1), some (.int (z_tb q1.1)), some (.int (q1005.1 + (6 : Int32)))] [] q1010.2 Q
                    refine g_iload_n dX12_readLiteral_117 rfl rfl ?_
                    cases h
                    exact g_iret dX12_readLiteral_118 rfl rfl hq
                · replace h := z_iff c1004 h
                  refine g_iconst (v := (0 : Int32)) dX12_readLiteral_92 (by decide) ?_
                  refine g_goto (t := 111) dX12_readLiteral_93 (by decide) ?_
                  refine g_istore_n (ls' := [some (.ref 139), some (.int a1), some (.int (z_tb q1.1)), some (.int (0 : Int32))]) dX12_readLiteral_111 rfl (Nat.le_of_ble_eq_true rfl) rfl ?_
                  refine g_aload_n dX12_readLiteral_112 rfl rfl ?_
                  refine g_iconst (v := (1 : Int32)) dX12_readLiteral_113 (by decide) ?_
                  obtain ⟨q1012, e1013, h⟩ := z_bd h
                  refine g_callV (a := 137) (as := [.int (1 : Int32)]) (rest := []) (c := mX12_must) (k1 := 2) dX12_readLiteral_114 rfl rfl rfl sh_137 rfl rfl (Nat.le_of_ble_eq_true rfl) (Nat.le_of_ble_eq_true rfl) (by decide) ?_
                  refine A_X12_must e1013 ?_
                  show z_G none 5 mX12_readLiteral 117 [some (.ref 139), some (.int a1), some (.int (z_tb q1.1)), some (.int (0 : Int32))] [] q1012.2 Q
                  refine g_iload_n dX12_readLiteral_117 rfl rfl ?_
                  cases h
                  exact g_iret dX12_readLiteral_118 rfl rfl hq
        · replace h := z_ift c938 h
          refine g_aload_n dX12_readLiteral_38 rfl rfl ?_
          obtain ⟨q1014, e1015, h⟩ := z_bd h
          refine g_callV (a := 137) (as := []) (rest := []) (c := mX12_isName) (k1 := 4) dX12_readLiteral_39 rfl rfl rfl sh_137 rfl rfl (Nat.le_of_ble_eq_true rfl) (Nat.le_of_ble_eq_true rfl) (by decide) ?_
          refine A_X12_isName e1015 ?_
          show z_G none 5 mX12_readLiteral 42 [some (.ref 139), some (.int a1), some (.int (z_tb q1.1)), none] [.int (z_tb q1014.1)] q1014.2 Q
          refine g_if_ne (t := 49) dX12_readLiteral_42 (by decide) (fun c1016 => ?_) (fun c1016 => ?_)
          · replace h := z_ift (z_tbn.mp c1016) h
            refine g_aload_n dX12_readLiteral_49 rfl rfl ?_
            refine g_get (a := 137) (v := .int (q1014.2.1 137 12)) dX12_readLiteral_50 f_12_212 sh_137 rfl rfl ?_
            refine g_if_ne (t := 72) dX12_readLiteral_53 (by decide) (fun c1017 => ?_) (fun c1017 => ?_)
            · replace h := z_iff c1017 h
              refine g_iload_n dX12_readLiteral_72 rfl rfl ?_
              refine g_if_eq (t := 85) dX12_readLiteral_73 (by decide) (fun c1018 => ?_) (fun c1018 => ?_)
              · replace h := z_ift c1018 h
                refine g_aload_n dX12_readLiteral_85 rfl rfl ?_
                refine g_get (a := 137) (v := .int (q1014.2.1 137 12)) dX12_readLiteral_86 f_12_212 sh_137 rfl rfl ?_
                refine g_if_le (t := 96) dX12_readLiteral_89 (by decide) (fun c1019 => ?_) (fun c1019 => ?_)
                · replace h := z_ift c1019 h
                  refine g_aload_n dX12_readLiteral_96 rfl rfl ?_
                  obtain ⟨q1020, e1021, h⟩ := z_bd h
                  refine g_callV (a := 137) (as := []) (rest := []) (c := mX12_named) (k1 := 0) dX12_readLiteral_97 rfl rfl rfl sh_137 rfl rfl (Nat.le_of_ble_eq_true rfl) (Nat.le_of_ble_eq_true rfl) (by decide) ?_
                  refine A_X12_named e1021 ?_
                  show z_G none 5 mX12_readLiteral 100 [some (.ref 139), some (.int a1), some (.int (z_tb q1.1)), none] [.int q1020.1] q1020.2 Q
                  refine g_iload_n dX12_readLiteral_100 rfl rfl ?_
                  refine g_if_eq (t := 109) dX12_readLiteral_101 (by decide) (fun c1022 => ?_) (fun c1022 => ?_)
                  · replace h := z_iff (z_tb0.mp c1022) h
                    refine g_iconst (v := (0 : Int32)) dX12_readLiteral_109 (by decide) ?_
                    refine g_iadd dX12_readLiteral_110 ?_
                    refine g_istore_n (ls' := [some (.ref 139), some (.int a1), some (.int (z_tb q1.1)), some (.int (q1020.1 + (0 : Int32)))]) dX12_readLiteral_111 rfl (Nat.le_of_ble_eq_true rfl) rfl ?_
                    refine g_aload_n dX12_readLiteral_112 rfl rfl ?_
                    refine g_iconst (v := (1 : Int32)) dX12_readLiteral_113 (by decide) ?_
                    obtain ⟨q1023, e1024, h⟩ := z_bd h
                    refine g_callV (a := 137) (as := [.int (1 : Int32)]) (rest := []) (c := mX12_must) (k1 := 2) dX12_readLiteral_114 rfl rfl rfl sh_137 rfl rfl (Nat.le_of_ble_eq_true rfl) (Nat.le_of_ble_eq_true rfl) (by decide) ?_
                    refine A_X12_must e1024 ?_
                    show z_G none 5 mX12_readLiteral 117 [some (.ref 139), some (.int a1), some (.int (z_tb q1.1)), some (.int (q1020.1 + (0 : Int32)))] [] q1023.2 Q
                    refine g_iload_n dX12_readLiteral_117 rfl rfl ?_
                    cases h
                    exact g_iret dX12_readLiteral_118 rfl rfl hq
                  · replace h := z_ift (z_tbn.mp c1022) h
                    refine g_bipush (v := (6 : Int32)) dX12_readLiteral_104 (by decide) ?_
                    refine g_goto (t := 110) dX12_readLiteral_106 (by decide) ?_
                    refine g_iadd dX12_readLiteral_110 ?_
                    refine g_istore_n (ls' := [some (.ref 139), some (.int a1), some (.int (z_tb q1.1)), some (.int (q1020.1 + (6 : Int32)))]) dX12_readLiteral_111 rfl (Nat.le_of_ble_eq_true rfl) rfl ?_
                    refine g_aload_n dX12_readLiteral_112 rfl rfl ?_
                    refine g_iconst (v := (1 : Int32)) dX12_readLiteral_113 (by decide) ?_
                    obtain ⟨q1025, e1026, h⟩ := z_bd h
                    refine g_callV (a := 137) (as := [.int (1 : Int32)]) (rest := []) (c := mX12_must) (k1 := 2) dX12_readLiteral_114 rfl rfl rfl sh_137 rfl rfl (Nat.le_of_ble_eq_true rfl) (Nat.le_of_ble_eq_true rfl) (by decide) ?_
                    refine A_X12_must e1026 ?_
                    show z_G none 5 mX12_readLiteral 117 [some (.ref 139), some (.int a1), some (.int (z_tb q1.1)), some (.int (q1020.1 + (6 : Int32)))] [] q1025.2 Q
                    refine g_iload_n dX12_readLiteral_117 rfl rfl ?_
                    cases h
                    exact g_iret dX12_readLiteral_118 rfl rfl hq
                · replace h := z_iff c1019 h
                  refine g_iconst (v := (0 : Int32)) dX12_readLiteral_92 (by decide) ?_
                  refine g_goto (t := 111) dX12_readLiteral_93 (by decide) ?_
                  refine g_istore_n (ls' := [some (.ref 139), some (.int a1), some (.int (z_tb q1.1)), some (.int (0 : Int32))]) dX12_readLiteral_111 rfl (Nat.le_of_ble_eq_true rfl) rfl ?_
                  refine g_aload_n dX12_readLiteral_112 rfl rfl ?_
                  refine g_iconst (v := (1 : Int32)) dX12_readLiteral_113 (by decide) ?_
                  obtain ⟨q1027, e1028, h⟩ := z_bd h
                  refine g_callV (a := 137) (as := [.int (1 : Int32)]) (rest := []) (c := mX12_must) (k1 := 2) dX12_readLiteral_114 rfl rfl rfl sh_137 rfl rfl (Nat.le_of_ble_eq_true rfl) (Nat.le_of_ble_eq_true rfl) (by decide) ?_
                  refine A_X12_must e1028 ?_
                  show z_G none 5 mX12_readLiteral 117 [some (.ref 139), some (.int a1), some (.int (z_tb q1.1)), some (.int (0 : Int32))] [] q1027.2 Q
                  refine g_iload_n dX12_readLiteral_117 rfl rfl ?_
                  cases h
                  exact g_iret dX12_readLiteral_118 rfl rfl hq
              · replace h := z_iff c1018 h
                refine g_aload_n dX12_readLiteral_76 rfl rfl ?_
                refine g_iconst (v := (5 : Int32)) dX12_readLiteral_77 (by decide) ?_
                refine g_aload_n dX12_readLiteral_78 rfl rfl ?_
                refine g_get (a := 137) (v := .int (q1014.2.1 137 15)) dX12_readLiteral_79 f_12_106 sh_137 rfl rfl ?_
                obtain ⟨q1029, e1030, h⟩ := z_bd h
                refine g_callV (a := 137) (as := [.int (5 : Int32), .int (q1014.2.1 137 15)]) (rest := []) (c := mX12_fail) (k1 := 0) dX12_readLiteral_82 rfl rfl rfl sh_137 rfl rfl (Nat.le_of_ble_eq_true rfl) (Nat.le_of_ble_eq_true rfl) (by decide) ?_
                refine A_X12_fail e1030 ?_
                show z_G none 5 mX12_readLiteral 85 [some (.ref 139), some (.int a1), some (.int (z_tb q1.1)), none] [] q1029.2 Q
                refine g_aload_n dX12_readLiteral_85 rfl rfl ?_
                refine g_get (a := 137) (v := .int (q1029.2.1 137 12)) dX12_readLiteral_86 f_12_212 sh_137 rfl rfl ?_
                refine g_if_le (t := 96) dX12_readLiteral_89 (by decide) (fun c1031 => ?_) (fun c1031 => ?_)
                · replace h := z_ift c1031 h
                  refine g_aload_n dX12_readLiteral_96 rfl rfl ?_
                  obtain ⟨q1032, e1033, h⟩ := z_bd h
                  refine g_callV (a := 137) (as := []) (rest := []) (c := mX12_named) (k1 := 0) dX12_readLiteral_97 rfl rfl rfl sh_137 rfl rfl (Nat.le_of_ble_eq_true rfl) (Nat.le_of_ble_eq_true rfl) (by decide) ?_
                  refine A_X12_named e1033 ?_
                  show z_G none 5 mX12_readLiteral 100 [some (.ref 139), some (.int a1), some (.int (z_tb q1.1)), none] [.int q1032.1] q1032.2 Q
                  refine g_iload_n dX12_readLiteral_100 rfl rfl ?_
                  refine g_if_eq (t := 109) dX12_readLiteral_101 (by decide) (fun c1034 => ?_) (fun c1034 => ?_)
                  · replace h := z_iff (z_tb0.mp c1034) h
                    refine g_iconst (v := (0 : Int32)) dX12_readLiteral_109 (by decide) ?_
                    refine g_iadd dX12_readLiteral_110 ?_
                    refine g_istore_n (ls' := [some (.ref 139), some (.int a1), some (.int (z_tb q1.1)), some (.int (q1032.1 + (0 : Int32)))]) dX12_readLiteral_111 rfl (Nat.le_of_ble_eq_true rfl) rfl ?_
                    refine g_aload_n dX12_readLiteral_112 rfl rfl ?_
                    refine g_iconst (v := (1 : Int32)) dX12_readLiteral_113 (by decide) ?_
                    obtain ⟨q1035, e1036, h⟩ := z_bd h
                    refine g_callV (a := 137) (as := [.int (1 : Int32)]) (rest := []) (c := mX12_must) (k1 := 2) dX12_readLiteral_114 rfl rfl rfl sh_137 rfl rfl (Nat.le_of_ble_eq_true rfl) (Nat.le_of_ble_eq_true rfl) (by decide) ?_
                    refine A_X12_must e1036 ?_
                    show z_G none 5 mX12_readLiteral 117 [some (.ref 139), some (.int a1), some (.int (z_tb q1.1)), some (.int (q1032.1 + (0 : Int32)))] [] q1035.2 Q
                    refine g_iload_n dX12_readLiteral_117 rfl rfl ?_
                    cases h
                    exact g_iret dX12_readLiteral_118 rfl rfl hq
                  · replace h := z_ift (z_tbn.mp c1034) h
                    refine g_bipush (v := (6 : Int32)) dX12_readLiteral_104 (by decide) ?_
                    refine g_goto (t := 110) dX12_readLiteral_106 (by decide) ?_
                    refine g_iadd dX12_readLiteral_110 ?_
                    refine g_istore_n (ls' := [some (.ref 139), some (.int a1), some (.int (z_tb q1.1)), some (.int (q1032.1 + (6 : Int32)))]) dX12_readLiteral_111 rfl (Nat.le_of_ble_eq_true rfl) rfl ?_
                    refine g_aload_n dX12_readLiteral_112 rfl rfl ?_
                    refine g_iconst (v := (1 : Int32)) dX12_readLiteral_113 (by decide) ?_
                    obtain ⟨q1037, e1038, h⟩ := z_bd h
                    refine g_callV (a := 137) (as := [.int (1 : Int32)]) (rest := []) (c := mX12_must) (k1 := 2) dX12_readLiteral_114 rfl rfl rfl sh_137 rfl rfl (Nat.le_of_ble_eq_true rfl) (Nat.le_of_ble_eq_true rfl) (by decide) ?_
                    refine A_X12_must e1038 ?_
                    show z_G none 5 mX12_readLiteral 117 [some (.ref 139), some (.int a1), some (.int (z_tb q1.1)), some (.int (q1032.1 + (6 : Int32)))] [] q1037.2 Q
                    refine g_iload_n dX12_readLiteral_117 rfl rfl ?_
                    cases h
                    exact g_iret dX12_readLiteral_118 rfl rfl hq
                · replace h := z_iff c1031 h
                  refine g_iconst (v := (0 : Int32)) dX12_readLiteral_92 (by decide) ?_
                  refine g_goto (t := 111) dX12_readLiteral_93 (by decide) ?_
                  refine g_istore_n (ls' := [some (.ref 139), some (.int a1), some (.int (z_tb q1.1)), some (.int (0 : Int32))]) dX12_readLiteral_111 rfl (Nat.le_of_ble_eq_true rfl) rfl ?_
                  refine g_aload_n dX12_readLiteral_112 rfl rfl ?_
                  refine g_iconst (v := (1 : Int32)) dX12_readLiteral_113 (by decide) ?_
                  obtain ⟨q1039, e1040, h⟩ := z_bd h
                  refine g_callV (a := 137) (as := [.int (1 : Int32)]) (rest := []) (c := mX12_must) (k1 := 2) dX12_readLiteral_114 rfl rfl rfl sh_137 rfl rfl (Nat.le_of_ble_eq_true rfl) (Nat.le_of_ble_eq_true rfl) (by decide) ?_
                  refine A_X12_must e1040 ?_
                  show z_G none 5 mX12_readLiteral 117 [some (.ref 139), some (.int a1), some (.int (z_tb q1.1)), some (.int (0 : Int32))] [] q1039.2 Q
                  refine g_iload_n dX12_readLiteral_117 rfl rfl ?_
                  cases h
                  exact g_iret dX12_readLiteral_118 rfl rfl hq
            · replace h := z_ift c1017 h
              refine g_aload_n dX12_readLiteral_56 rfl rfl ?_
              obtain ⟨q1041, e1042, h⟩ := z_bd h
              refine g_callV (a := 137) (as := []) (rest := []) (c := mX12_named) (k1 := 0) dX12_readLiteral_57 rfl rfl rfl sh_137 rfl rfl (Nat.le_of_ble_eq_true rfl) (Nat.le_of_ble_eq_true rfl) (by decide) ?_
              refine A_X12_named e1042 ?_
              show z_G none 5 mX12_readLiteral 60 [some (.ref 139), some (.int a1), some (.int (z_tb q1.1)), none] [.int q1041.1] q1041.2 Q
              refine g_if_ge (t := 72) dX12_readLiteral_60 (by decide) (fun c1043 => ?_) (fun c1043 => ?_)
              · replace h := z_ift c1043 h
                refine g_iload_n dX12_readLiteral_72 rfl rfl ?_
                refine g_if_eq (t := 85) dX12_readLiteral_73 (by decide) (fun c1044 => ?_) (fun c1044 => ?_)
                · replace h := z_ift c1044 h
                  refine g_aload_n dX12_readLiteral_85 rfl rfl ?_
                  refine g_get (a := 137) (v := .int (q1041.2.1 137 12)) dX12_readLiteral_86 f_12_212 sh_137 rfl rfl ?_
                  refine g_if_le (t := 96) dX12_readLiteral_89 (by decide) (fun c1045 => ?_) (fun c1045 => ?_)
                  · replace h := z_ift c1045 h
                    refine g_aload_n dX12_readLiteral_96 rfl rfl ?_
                    obtain ⟨q1046, e1047, h⟩ := z_bd h
                    refine g_callV (a := 137) (as := []) (rest := []) (c := mX12_named) (k1 := 0) dX12_readLiteral_97 rfl rfl rfl sh_137 rfl rfl (Nat.le_of_ble_eq_true rfl) (Nat.le_of_ble_eq_true rfl) (by decide) ?_
                    refine A_X12_named e1047 ?_
                    show z_G none 5 mX12_readLiteral 100 [some (.ref 139), some (.int a1), some (.int (z_tb q1.1)), none] [.int q1046.1] q1046.2 Q
                    refine g_iload_n dX12_readLiteral_100 rfl rfl ?_
                    refine g_if_eq (t := 109) dX12_readLiteral_101 (by decide) (fun c1048 => ?_) (fun c1048 => ?_)
                    · replace h := z_iff (z_tb0.mp c1048) h
                      refine g_iconst (v := (0 : Int32)) dX12_readLiteral_109 (by decide) ?_
                      refine g_iadd dX12_readLiteral_110 ?_
                      refine g_istore_n (ls' := [some (.ref 139), some (.int a1), some (.int (z_tb q1.1)), some (.int (q1046.1 + (0 : Int32)))]) dX12_readLiteral_111 rfl (Nat.le_of_ble_eq_true rfl) rfl ?_
                      refine g_aload_n dX12_readLiteral_112 rfl rfl ?_
                      refine g_iconst (v := (1 : Int32)) dX12_readLiteral_113 (by decide) ?_
                      obtain ⟨q1049, e1050, h⟩ := z_bd h
                      refine g_callV (a := 137) (as := [.int (1 : Int32)]) (rest := []) (c := mX12_must) (k1 := 2) dX12_readLiteral_114 rfl rfl rfl sh_137 rfl rfl (Nat.le_of_ble_eq_true rfl) (Nat.le_of_ble_eq_true rfl) (by decide) ?_
                      refine A_X12_must e1050 ?_
                      show z_G none 5 mX12_readLiteral 117 [some (.ref 139), some (.int a1), some (.int (z_tb q1.1)), some (.int (q1046.1 + (0 : Int32)))] [] q1049.2 Q
                      refine g_iload_n dX12_readLiteral_117 rfl rfl ?_
                      cases h
                      exact g_iret dX12_readLiteral_118 rfl rfl hq
                    · replace h := z_ift (z_tbn.mp c1048) h
                      refine g_bipush (v := (6 : Int32)) dX12_readLiteral_104 (by decide) ?_
                      refine g_goto (t := 110) dX12_readLiteral_106 (by decide) ?_
                      refine g_iadd dX12_readLiteral_110 ?_
                      refine g_istore_n (ls' := [some (.ref 139), some (.int a1), some (.int (z_tb q1.1)), some (.int (q1046.1 + (6 : Int32)))]) dX12_readLiteral_111 rfl (Nat.le_of_ble_eq_true rfl) rfl ?_
                      refine g_aload_n dX12_readLiteral_112 rfl rfl ?_
                      refine g_iconst (v := (1 : Int32)) dX12_readLiteral_113 (by decide) ?_
                      obtain ⟨q1051, e1052, h⟩ := z_bd h
                      refine g_callV (a := 137) (as := [.int (1 : Int32)]) (rest := []) (c := mX12_must) (k1 := 2) dX12_readLiteral_114 rfl rfl rfl sh_137 rfl rfl (Nat.le_of_ble_eq_true rfl) (Nat.le_of_ble_eq_true rfl) (by decide) ?_
                      refine A_X12_must e1052 ?_
                      show z_G none 5 mX12_readLiteral 117 [some (.ref 139), some (.int a1), some (.int (z_tb q1.1)), some (.int (q1046.1 + (6 : Int32)))] [] q1051.2 Q
                      refine g_iload_n dX12_readLiteral_117 rfl rfl ?_
                      cases h
                      exact g_iret dX12_readLiteral_118 rfl rfl hq
                  · replace h := z_iff c1045 h
                    refine g_iconst (v := (0 : Int32)) dX12_readLiteral_92 (by decide) ?_
                    refine g_goto (t := 111) dX12_readLiteral_93 (by decide) ?_
                    refine g_istore_n (ls' := [some (.ref 139), some (.int a1), some (.int (z_tb q1.1)), some (.int (0 : Int32))]) dX12_readLiteral_111 rfl (Nat.le_of_ble_eq_true rfl) rfl ?_
                    refine g_aload_n dX12_readLiteral_112 rfl rfl ?_
                    refine g_iconst (v := (1 : Int32)) dX12_readLiteral_113 (by decide) ?_
                    obtain ⟨q1053, e1054, h⟩ := z_bd h
                    refine g_callV (a := 137) (as := [.int (1 : Int32)]) (rest := []) (c := mX12_must) (k1 := 2) dX12_readLiteral_114 rfl rfl rfl sh_137 rfl rfl (Nat.le_of_ble_eq_true rfl) (Nat.le_of_ble_eq_true rfl) (by decide) ?_
                    refine A_X12_must e1054 ?_
                    show z_G none 5 mX12_readLiteral 117 [some (.ref 139), some (.int a1), some (.int (z_tb q1.1)), some (.int (0 : Int32))] [] q1053.2 Q
                    refine g_iload_n dX12_readLiteral_117 rfl rfl ?_
                    cases h
                    exact g_iret dX12_readLiteral_118 rfl rfl hq
                · replace h := z_iff c1044 h
                  refine g_aload_n dX12_readLiteral_76 rfl rfl ?_
                  refine g_iconst (v := (5 : Int32)) dX12_readLiteral_77 (by decide) ?_
                  refine g_aload_n dX12_readLiteral_78 rfl rfl ?_
                  refine g_get (a := 137) (v := .int (q1041.2.1 137 15)) dX12_readLiteral_79 f_12_106 sh_137 rfl rfl ?_
                  obtain ⟨q1055, e1056, h⟩ := z_bd h
                  refine g_callV (a := 137) (as := [.int (5 : Int32), .int (q1041.2.1 137 15)]) (rest := []) (c := mX12_fail) (k1 := 0) dX12_readLiteral_82 rfl rfl rfl sh_137 rfl rfl (Nat.le_of_ble_eq_true rfl) (Nat.le_of_ble_eq_true rfl) (by decide) ?_
                  refine A_X12_fail e1056 ?_
                  show z_G none 5 mX12_readLiteral 85 [some (.ref 139), some (.int a1), some (.int (z_tb q1.1)), none] [] q1055.2 Q
                  refine g_aload_n dX12_readLiteral_85 rfl rfl ?_
                  refine g_get (a := 137) (v := .int (q1055.2.1 137 12)) dX12_readLiteral_86 f_12_212 sh_137 rfl rfl ?_
                  refine g_if_le (t := 96) dX12_readLiteral_89 (by decide) (fun c1057 => ?_) (fun c1057 => ?_)
                  · replace h := z_ift c1057 h
                    refine g_aload_n dX12_readLiteral_96 rfl rfl ?_
                    obtain ⟨q1058, e1059, h⟩ := z_bd h
                    refine g_callV (a := 137) (as := []) (rest := []) (c := mX12_named) (k1 := 0) dX12_readLiteral_97 rfl rfl rfl sh_137 rfl rfl (Nat.le_of_ble_eq_true rfl) (Nat.le_of_ble_eq_true rfl) (by decide) ?_
                    refine A_X12_named e1059 ?_
                    show z_G none 5 mX12_readLiteral 100 [some (.ref 139), some (.int a1), some (.int (z_tb q1.1)), none] [.int q1058.1] q1058.2 Q
                    refine g_iload_n dX12_readLiteral_100 rfl rfl ?_
                    refine g_if_eq (t := 109) dX12_readLiteral_101 (by decide) (fun c1060 => ?_) (fun c1060 => ?_)
                    · replace h := z_iff (z_tb0.mp c1060) h
                      refine g_iconst (v := (0 : Int32)) dX12_readLiteral_109 (by decide) ?_
                      refine g_iadd dX12_readLiteral_110 ?_
                      refine g_istore_n (ls' := [some (.ref 139), some (.int a1), some (.int (z_tb q1.1)), some (.int (q1058.1 + (0 : Int32)))]) dX12_readLiteral_111 rfl (Nat.le_of_ble_eq_true rfl) rfl ?_
                      refine g_aload_n dX12_readLiteral_112 rfl rfl ?_
                      refine g_iconst (v := (1 : Int32)) dX12_readLiteral_113 (by decide) ?_
                      obtain ⟨q1061, e1062, h⟩ := z_bd h
                      refine g_callV (a := 137) (as := [.int (1 : Int32)]) (rest := []) (c := mX12_must) (k1 := 2) dX12_readLiteral_114 rfl rfl rfl sh_137 rfl rfl (Nat.le_of_ble_eq_true rfl) (Nat.le_of_ble_eq_true rfl) (by decide) ?_
                      refine A_X12_must e1062 ?_
                      show z_G none 5 mX12_readLiteral 117 [some (.ref 139), some (.int a1), some (.int (z_tb q1.1)), some (.int (q1058.1 + (0 : Int32)))] [] q1061.2 Q
                      refine g_iload_n dX12_readLiteral_117 rfl rfl ?_
                      cases h
                      exact g_iret dX12_readLiteral_118 rfl rfl hq
                    · replace h := z_ift (z_tbn.mp c1060) h
                      refine g_bipush (v := (6 : Int32)) dX12_readLiteral_104 (by decide) ?_
                      refine g_goto (t := 110) dX12_readLiteral_106 (by decide) ?_
                      refine g_iadd dX12_readLiteral_110 ?_
                      refine g_istore_n (ls' := [some (.ref 139), some (.int a1), some (.int (z_tb q1.1)), some (.int (q1058.1 + (6 : Int32)))]) dX12_readLiteral_111 rfl (Nat.le_of_ble_eq_true rfl) rfl ?_
                      refine g_aload_n dX12_readLiteral_112 rfl rfl ?_
                      refine g_iconst (v := (1 : Int32)) dX12_readLiteral_113 (by decide) ?_
                      obtain ⟨q1063, e1064, h⟩ := z_bd h
                      refine g_callV (a := 137) (as := [.int (1 : Int32)]) (rest := []) (c := mX12_must) (k1 := 2) dX12_readLiteral_114 rfl rfl rfl sh_137 rfl rfl (Nat.le_of_ble_eq_true rfl) (Nat.le_of_ble_eq_true rfl) (by decide) ?_
                      refine A_X12_must e1064 ?_
                      show z_G none 5 mX12_readLiteral 117 [some (.ref 139), some (.int a1), some (.int (z_tb q1.1)), some (.int (q1058.1 + (6 : Int32)))] [] q1063.2 Q
                      refine g_iload_n dX12_readLiteral_117 rfl rfl ?_
                      cases h
                      exact g_iret dX12_readLiteral_118 rfl rfl hq
                  · replace h := z_iff c1057 h
                    refine g_iconst (v := (0 : Int32)) dX12_readLiteral_92 (by decide) ?_
                    refine g_goto (t := 111) dX12_readLiteral_93 (by decide) ?_
                    refine g_istore_n (ls' := [some (.ref 139), some (.int a1), some (.int (z_tb q1.1)), some (.int (0 : Int32))]) dX12_readLiteral_111 rfl (Nat.le_of_ble_eq_true rfl) rfl ?_
                    refine g_aload_n dX12_readLiteral_112 rfl rfl ?_
                    refine g_iconst (v := (1 : Int32)) dX12_readLiteral_113 (by decide) ?_
                    obtain ⟨q1065, e1066, h⟩ := z_bd h
                    refine g_callV (a := 137) (as := [.int (1 : Int32)]) (rest := []) (c := mX12_must) (k1 := 2) dX12_readLiteral_114 rfl rfl rfl sh_137 rfl rfl (Nat.le_of_ble_eq_true rfl) (Nat.le_of_ble_eq_true rfl) (by decide) ?_
                    refine A_X12_must e1066 ?_
                    show z_G none 5 mX12_readLiteral 117 [some (.ref 139), some (.int a1), some (.int (z_tb q1.1)), some (.int (0 : Int32))] [] q1065.2 Q
                    refine g_iload_n dX12_readLiteral_117 rfl rfl ?_
                    cases h
                    exact g_iret dX12_readLiteral_118 rfl rfl hq
              · replace h := z_iff c1043 h
                refine g_aload_n dX12_readLiteral_63 rfl rfl ?_
                refine g_iconst (v := (3 : Int32)) dX12_readLiteral_64 (by decide) ?_
                refine g_aload_n dX12_readLiteral_65 rfl rfl ?_
                refine g_get (a := 137) (v := .int (q1041.2.1 137 15)) dX12_readLiteral_66 f_12_106 sh_137 rfl rfl ?_
                obtain ⟨q1067, e1068, h⟩ := z_bd h
                refine g_callV (a := 137) (as := [.int (3 : Int32), .int (q1041.2.1 137 15)]) (rest := []) (c := mX12_fail) (k1 := 0) dX12_readLiteral_69 rfl rfl rfl sh_137 rfl rfl (Nat.le_of_ble_eq_true rfl) (Nat.le_of_ble_eq_true rfl) (by decide) ?_
                refine A_X12_fail e1068 ?_
                show z_G none 5 mX12_readLiteral 72 [some (.ref 139), some (.int a1), some (.int (z_tb q1.1)), none] [] q1067.2 Q
                refine g_iload_n dX12_readLiteral_72 rfl rfl ?_
                refine g_if_eq (t := 85) dX12_readLiteral_73 (by decide) (fun c1069 => ?_) (fun c1069 => ?_)
                · replace h := z_ift c1069 h
                  refine g_aload_n dX12_readLiteral_85 rfl rfl ?_
                  refine g_get (a := 137) (v := .int (q1067.2.1 137 12)) dX12_readLiteral_86 f_12_212 sh_137 rfl rfl ?_
                  refine g_if_le (t := 96) dX12_readLiteral_89 (by decide) (fun c1070 => ?_) (fun c1070 => ?_)
                  · replace h := z_ift c1070 h
                    refine g_aload_n dX12_readLiteral_96 rfl rfl ?_
                    obtain ⟨q1071, e1072, h⟩ := z_bd h
                    refine g_callV (a := 137) (as := []) (rest := []) (c := mX12_named) (k1 := 0) dX12_readLiteral_97 rfl rfl rfl sh_137 rfl rfl (Nat.le_of_ble_eq_true rfl) (Nat.le_of_ble_eq_true rfl) (by decide) ?_
                    refine A_X12_named e1072 ?_
                    show z_G none 5 mX12_readLiteral 100 [some (.ref 139), some (.int a1), some (.int (z_tb q1.1)), none] [.int q1071.1] q1071.2 Q
                    refine g_iload_n dX12_readLiteral_100 rfl rfl ?_
                    refine g_if_eq (t := 109) dX12_readLiteral_101 (by decide) (fun c1073 => ?_) (fun c1073 => ?_)
                    · replace h := z_iff (z_tb0.mp c1073) h
                      refine g_iconst (v := (0 : Int32)) dX12_readLiteral_109 (by decide) ?_
                      refine g_iadd dX12_readLiteral_110 ?_
                      refine g_istore_n (ls' := [some (.ref 139), some (.int a1), some (.int (z_tb q1.1)), some (.int (q1071.1 + (0 : Int32)))]) dX12_readLiteral_111 rfl (Nat.le_of_ble_eq_true rfl) rfl ?_
                      refine g_aload_n dX12_readLiteral_112 rfl rfl ?_
                      refine g_iconst (v := (1 : Int32)) dX12_readLiteral_113 (by decide) ?_
                      obtain ⟨q1074, e1075, h⟩ := z_bd h
                      refine g_callV (a := 137) (as := [.int (1 : Int32)]) (rest := []) (c := mX12_must) (k1 := 2) dX12_readLiteral_114 rfl rfl rfl sh_137 rfl rfl (Nat.le_of_ble_eq_true rfl) (Nat.le_of_ble_eq_true rfl) (by decide) ?_
                      refine A_X12_must e1075 ?_
                      show z_G none 5 mX12_readLiteral 117 [some (.ref 139), some (.int a1), some (.int (z_tb q1.1)), some (.int (q1071.1 + (0 : Int32)))] [] q1074.2 Q
                      refine g_iload_n dX12_readLiteral_117 rfl rfl ?_
                      cases h
                      exact g_iret dX12_readLiteral_118 rfl rfl hq
                    · replace h := z_ift (z_tbn.mp c1073) h
                      refine g_bipush (v := (6 : Int32)) dX12_readLiteral_104 (by decide) ?_
                      refine g_goto (t := 110) dX12_readLiteral_106 (by decide) ?_
                      refine g_iadd dX12_readLiteral_110 ?_
                      refine g_istore_n (ls' := [some (.ref 139), some (.int a1), some (.int (z_tb q1.1)), some (.int (q1071.1 + (6 : Int32)))]) dX12_readLiteral_111 rfl (Nat.le_of_ble_eq_true rfl) rfl ?_
                      refine g_aload_n dX12_readLiteral_112 rfl rfl ?_
                      refine g_iconst (v := (1 : Int32)) dX12_readLiteral_113 (by decide) ?_
                      obtain ⟨q1076, e1077, h⟩ := z_bd h
                      refine g_callV (a := 137) (as := [.int (1 : Int32)]) (rest := []) (c := mX12_must) (k1 := 2) dX12_readLiteral_114 rfl rfl rfl sh_137 rfl rfl (Nat.le_of_ble_eq_true rfl) (Nat.le_of_ble_eq_true rfl) (by decide) ?_
                      refine A_X12_must e1077 ?_
                      show z_G none 5 mX12_readLiteral 117 [some (.ref 139), some (.int a1), some (.int (z_tb q1.1)), some (.int (q1071.1 + (6 : Int32)))] [] q1076.2 Q
                      refine g_iload_n dX12_readLiteral_117 rfl rfl ?_
                      cases h
                      exact g_iret dX12_readLiteral_118 rfl rfl hq
                  · replace h := z_iff c1070 h
                    refine g_iconst (v := (0 : Int32)) dX12_readLiteral_92 (by decide) ?_
                    refine g_goto (t := 111) dX12_readLiteral_93 (by decide) ?_
                    refine g_istore_n (ls' := [some (.ref 139), some (.int a1), some (.int (z_tb q1.1)), some (.int (0 : Int32))]) dX12_readLiteral_111 rfl (Nat.le_of_ble_eq_true rfl) rfl ?_
                    refine g_aload_n dX12_readLiteral_112 rfl rfl ?_
                    refine g_iconst (v := (1 : Int32)) dX12_readLiteral_113 (by decide) ?_
                    obtain ⟨q1078, e1079, h⟩ := z_bd h
                    refine g_callV (a := 137) (as := [.int (1 : Int32)]) (rest := []) (c := mX12_must) (k1 := 2) dX12_readLiteral_114 rfl rfl rfl sh_137 rfl rfl (Nat.le_of_ble_eq_true rfl) (Nat.le_of_ble_eq_true rfl) (by decide) ?_
                    refine A_X12_must e1079 ?_
                    show z_G none 5 mX12_readLiteral 117 [some (.ref 139), some (.int a1), some (.int (z_tb q1.1)), some (.int (0 : Int32))] [] q1078.2 Q
                    refine g_iload_n dX12_readLiteral_117 rfl rfl ?_
                    cases h
                    exact g_iret dX12_readLiteral_118 rfl rfl hq
                · replace h := z_iff c1069 h
                  refine g_aload_n dX12_readLiteral_76 rfl rfl ?_
                  refine g_iconst (v := (5 : Int32)) dX12_readLiteral_77 (by decide) ?_
                  refine g_aload_n dX12_readLiteral_78 rfl rfl ?_
                  refine g_get (a := 137) (v := .int (q1067.2.1 137 15)) dX12_readLiteral_79 f_12_106 sh_137 rfl rfl ?_
                  obtain ⟨q1080, e1081, h⟩ := z_bd h
                  refine g_callV (a := 137) (as := [.int (5 : Int32), .int (q1067.2.1 137 15)]) (rest := []) (c := mX12_fail) (k1 := 0) dX12_readLiteral_82 rfl rfl rfl sh_137 rfl rfl (Nat.le_of_ble_eq_true rfl) (Nat.le_of_ble_eq_true rfl) (by decide) ?_
                  refine A_X12_fail e1081 ?_
                  show z_G none 5 mX12_readLiteral 85 [some (.ref 139), some (.int a1), some (.int (z_tb q1.1)), none] [] q1080.2 Q
                  refine g_aload_n dX12_readLiteral_85 rfl rfl ?_
                  refine g_get (a := 137) (v := .int (q1080.2.1 137 12)) dX12_readLiteral_86 f_12_212 sh_137 rfl rfl ?_
                  refine g_if_le (t := 96) dX12_readLiteral_89 (by decide) (fun c1082 => ?_) (fun c1082 => ?_)
                  · replace h := z_ift c1082 h
                    refine g_aload_n dX12_readLiteral_96 rfl rfl ?_
                    obtain ⟨q1083, e1084, h⟩ := z_bd h
                    refine g_callV (a := 137) (as := []) (rest := []) (c := mX12_named) (k1 := 0) dX12_readLiteral_97 rfl rfl rfl sh_137 rfl rfl (Nat.le_of_ble_eq_true rfl) (Nat.le_of_ble_eq_true rfl) (by decide) ?_
                    refine A_X12_named e1084 ?_
                    show z_G none 5 mX12_readLiteral 100 [some (.ref 139), some (.int a1), some (.int (z_tb q1.1)), none] [.int q1083.1] q1083.2 Q
                    refine g_iload_n dX12_readLiteral_100 rfl rfl ?_
                    refine g_if_eq (t := 109) dX12_readLiteral_101 (by decide) (fun c1085 => ?_) (fun c1085 => ?_)
                    · replace h := z_iff (z_tb0.mp c1085) h
                      refine g_iconst (v := (0 : Int32)) dX12_readLiteral_109 (by decide) ?_
                      refine g_iadd dX12_readLiteral_110 ?_
                      refine g_istore_n (ls' := [some (.ref 139), some (.int a1), some (.int (z_tb q1.1)), some (.int (q1083.1 + (0 : Int32)))]) dX12_readLiteral_111 rfl (Nat.le_of_ble_eq_true rfl) rfl ?_
                      refine g_aload_n dX12_readLiteral_112 rfl rfl ?_
                      refine g_iconst (v := (1 : Int32)) dX12_readLiteral_113 (by decide) ?_
                      obtain ⟨q1086, e1087, h⟩ := z_bd h
                      refine g_callV (a := 137) (as := [.int (1 : Int32)]) (rest := []) (c := mX12_must) (k1 := 2) dX12_readLiteral_114 rfl rfl rfl sh_137 rfl rfl (Nat.le_of_ble_eq_true rfl) (Nat.le_of_ble_eq_true rfl) (by decide) ?_
                      refine A_X12_must e1087 ?_
                      show z_G none 5 mX12_readLiteral 117 [some (.ref 139), some (.int a1), some (.int (z_tb q1.1)), some (.int (q1083.1 + (0 : Int32)))] [] q1086.2 Q
                      refine g_iload_n dX12_readLiteral_117 rfl rfl ?_
                      cases h
                      exact g_iret dX12_readLiteral_118 rfl rfl hq
                    · replace h := z_ift (z_tbn.mp c1085) h
                      refine g_bipush (v := (6 : Int32)) dX12_readLiteral_104 (by decide) ?_
                      refine g_goto (t := 110) dX12_readLiteral_106 (by decide) ?_
                      refine g_iadd dX12_readLiteral_110 ?_
                      refine g_istore_n (ls' := [some (.ref 139), some (.int a1), some (.int (z_tb q1.1)), some (.int (q1083.1 + (6 : Int32)))]) dX12_readLiteral_111 rfl (Nat.le_of_ble_eq_true rfl) rfl ?_
                      refine g_aload_n dX12_readLiteral_112 rfl rfl ?_
                      refine g_iconst (v := (1 : Int32)) dX12_readLiteral_113 (by decide) ?_
                      obtain ⟨q1088, e1089, h⟩ := z_bd h
                      refine g_callV (a := 137) (as := [.int (1 : Int32)]) (rest := []) (c := mX12_must) (k1 := 2) dX12_readLiteral_114 rfl rfl rfl sh_137 rfl rfl (Nat.le_of_ble_eq_true rfl) (Nat.le_of_ble_eq_true rfl) (by decide) ?_
                      refine A_X12_must e1089 ?_
                      show z_G none 5 mX12_readLiteral 117 [some (.ref 139), some (.int a1), some (.int (z_tb q1.1)), some (.int (q1083.1 + (6 : Int32)))] [] q1088.2 Q
                      refine g_iload_n dX12_readLiteral_117 rfl rfl ?_
                      cases h
                      exact g_iret dX12_readLiteral_118 rfl rfl hq
                  · replace h := z_iff c1082 h
                    refine g_iconst (v := (0 : Int32)) dX12_readLiteral_92 (by decide) ?_
                    refine g_goto (t := 111) dX12_readLiteral_93 (by decide) ?_
                    refine g_istore_n (ls' := [some (.ref 139), some (.int a1), some (.int (z_tb q1.1)), some (.int (0 : Int32))]) dX12_readLiteral_111 rfl (Nat.le_of_ble_eq_true rfl) rfl ?_
                    refine g_aload_n dX12_readLiteral_112 rfl rfl ?_
                    refine g_iconst (v := (1 : Int32)) dX12_readLiteral_113 (by decide) ?_
                    obtain ⟨q1090, e1091, h⟩ := z_bd h
                    refine g_callV (a := 137) (as := [.int (1 : Int32)]) (rest := []) (c := mX12_must) (k1 := 2) dX12_readLiteral_114 rfl rfl rfl sh_137 rfl rfl (Nat.le_of_ble_eq_true rfl) (Nat.le_of_ble_eq_true rfl) (by decide) ?_
                    refine A_X12_must e1091 ?_
                    show z_G none 5 mX12_readLiteral 117 [some (.ref 139), some (.int a1), some (.int (z_tb q1.1)), some (.int (0 : Int32))] [] q1090.2 Q
                    refine g_iload_n dX12_readLiteral_117 rfl rfl ?_
                    cases h
                    exact g_iret dX12_readLiteral_118 rfl rfl hq
          · replace h := z_iff (z_tb0.mp c1016) h
            refine g_aload_n dX12_readLiteral_45 rfl rfl ?_
            obtain ⟨q1092, e1093, h⟩ := z_bd h
            refine g_callV (a := 137) (as := []) (rest := []) (c := mX12_amiss) (k1 := 1) dX12_readLiteral_46 rfl rfl rfl sh_137 rfl rfl (Nat.le_of_ble_eq_true rfl) (Nat.le_of_ble_eq_true rfl) (by decide) ?_
            refine A_X12_amiss e1093 ?_
            show z_G none 5 mX12_readLiteral 49 [some (.ref 139), some (.int a1), some (.int (z_tb q1.1)), none] [] q1092.2 Q
            refine g_aload_n dX12_readLiteral_49 rfl rfl ?_
            refine g_get (a := 137) (v := .int (q1092.2.1 137 12)) dX12_readLiteral_50 f_12_212 sh_137 rfl rfl ?_
            refine g_if_ne (t := 72) dX12_readLiteral_53 (by decide) (fun c1094 => ?_) (fun c1094 => ?_)
            · replace h := z_iff c1094 h
              refine g_iload_n dX12_readLiteral_72 rfl rfl ?_
              refine g_if_eq (t := 85) dX12_readLiteral_73 (by decide) (fun c1095 => ?_) (fun c1095 => ?_)
              · replace h := z_ift c1095 h
                refine g_aload_n dX12_readLiteral_85 rfl rfl ?_
                refine g_get (a := 137) (v := .int (q1092.2.1 137 12)) dX12_readLiteral_86 f_12_212 sh_137 rfl rfl ?_
                refine g_if_le (t := 96) dX12_readLiteral_89 (by decide) (fun c1096 => ?_) (fun c1096 => ?_)
                · replace h := z_ift c1096 h
                  refine g_aload_n dX12_readLiteral_96 rfl rfl ?_
                  obtain ⟨q1097, e1098, h⟩ := z_bd h
                  refine g_callV (a := 137) (as := []) (rest := []) (c := mX12_named) (k1 := 0) dX12_readLiteral_97 rfl rfl rfl sh_137 rfl rfl (Nat.le_of_ble_eq_true rfl) (Nat.le_of_ble_eq_true rfl) (by decide) ?_
                  refine A_X12_named e1098 ?_
                  show z_G none 5 mX12_readLiteral 100 [some (.ref 139), some (.int a1), some (.int (z_tb q1.1)), none] [.int q1097.1] q1097.2 Q
                  refine g_iload_n dX12_readLiteral_100 rfl rfl ?_
                  refine g_if_eq (t := 109) dX12_readLiteral_101 (by decide) (fun c1099 => ?_) (fun c1099 => ?_)
                  · replace h := z_iff (z_tb0.mp c1099) h
                    refine g_iconst (v := (0 : Int32)) dX12_readLiteral_109 (by decide) ?_
                    refine g_iadd dX12_readLiteral_110 ?_
                    refine g_istore_n (ls' := [some (.ref 139), some (.int a1), some (.int (z_tb q1.1)), some (.int (q1097.1 + (0 : Int32)))]) dX12_readLiteral_111 rfl (Nat.le_of_ble_eq_true rfl) rfl ?_
                    refine g_aload_n dX12_readLiteral_112 rfl rfl ?_
                    refine g_iconst (v := (1 : Int32)) dX12_readLiteral_113 (by decide) ?_
                    obtain ⟨q1100, e1101, h⟩ := z_bd h
                    refine g_callV (a := 137) (as := [.int (1 : Int32)]) (rest := []) (c := mX12_must) (k1 := 2) dX12_readLiteral_114 rfl rfl rfl sh_137 rfl rfl (Nat.le_of_ble_eq_true rfl) (Nat.le_of_ble_eq_true rfl) (by decide) ?_
                    refine A_X12_must e1101 ?_
                    show z_G none 5 mX12_readLiteral 117 [some (.ref 139), some (.int a1), some (.int (z_tb q1.1)), some (.int (q1097.1 + (0 : Int32)))] [] q1100.2 Q
                    refine g_iload_n dX12_readLiteral_117 rfl rfl ?_
                    cases h
                    exact g_iret dX12_readLiteral_118 rfl rfl hq
                  · replace h := z_ift (z_tbn.mp c1099) h
                    refine g_bipush (v := (6 : Int32)) dX12_readLiteral_104 (by decide) ?_
                    refine g_goto (t := 110) dX12_readLiteral_106 (by decide) ?_
                    refine g_iadd dX12_readLiteral_110 ?_
                    refine g_istore_n (ls' := [some (.ref 139), some (.int a1), some (.int (z_tb q1.1)), some (.int (q1097.1 + (6 : Int32)))]) dX12_readLiteral_111 rfl (Nat.le_of_ble_eq_true rfl) rfl ?_
                    refine g_aload_n dX12_readLiteral_112 rfl rfl ?_
                    refine g_iconst (v := (1 : Int32)) dX12_readLiteral_113 (by decide) ?_
                    obtain ⟨q1102, e1103, h⟩ := z_bd h
                    refine g_callV (a := 137) (as := [.int (1 : Int32)]) (rest := []) (c := mX12_must) (k1 := 2) dX12_readLiteral_114 rfl rfl rfl sh_137 rfl rfl (Nat.le_of_ble_eq_true rfl) (Nat.le_of_ble_eq_true rfl) (by decide) ?_
                    refine A_X12_must e1103 ?_
                    show z_G none 5 mX12_readLiteral 117 [some (.ref 139), some (.int a1), some (.int (z_tb q1.1)), some (.int (q1097.1 + (6 : Int32)))] [] q1102.2 Q
                    refine g_iload_n dX12_readLiteral_117 rfl rfl ?_
                    cases h
                    exact g_iret dX12_readLiteral_118 rfl rfl hq
                · replace h := z_iff c1096 h
                  refine g_iconst (v := (0 : Int32)) dX12_readLiteral_92 (by decide) ?_
                  refine g_goto (t := 111) dX12_readLiteral_93 (by decide) ?_
                  refine g_istore_n (ls' := [some (.ref 139), some (.int a1), some (.int (z_tb q1.1)), some (.int (0 : Int32))]) dX12_readLiteral_111 rfl (Nat.le_of_ble_eq_true rfl) rfl ?_
                  refine g_aload_n dX12_readLiteral_112 rfl rfl ?_
                  refine g_iconst (v := (1 : Int32)) dX12_readLiteral_113 (by decide) ?_
                  obtain ⟨q1104, e1105, h⟩ := z_bd h
                  refine g_callV (a := 137) (as := [.int (1 : Int32)]) (rest := []) (c := mX12_must) (k1 := 2) dX12_readLiteral_114 rfl rfl rfl sh_137 rfl rfl (Nat.le_of_ble_eq_true rfl) (Nat.le_of_ble_eq_true rfl) (by decide) ?_
                  refine A_X12_must e1105 ?_
                  show z_G none 5 mX12_readLiteral 117 [some (.ref 139), some (.int a1), some (.int (z_tb q1.1)), some (.int (0 : Int32))] [] q1104.2 Q
                  refine g_iload_n dX12_readLiteral_117 rfl rfl ?_
                  cases h
                  exact g_iret dX12_readLiteral_118 rfl rfl hq
              · replace h := z_iff c1095 h
                refine g_aload_n dX12_readLiteral_76 rfl rfl ?_
                refine g_iconst (v := (5 : Int32)) dX12_readLiteral_77 (by decide) ?_
                refine g_aload_n dX12_readLiteral_78 rfl rfl ?_
                refine g_get (a := 137) (v := .int (q1092.2.1 137 15)) dX12_readLiteral_79 f_12_106 sh_137 rfl rfl ?_
                obtain ⟨q1106, e1107, h⟩ := z_bd h
                refine g_callV (a := 137) (as := [.int (5 : Int32), .int (q1092.2.1 137 15)]) (rest := []) (c := mX12_fail) (k1 := 0) dX12_readLiteral_82 rfl rfl rfl sh_137 rfl rfl (Nat.le_of_ble_eq_true rfl) (Nat.le_of_ble_eq_true rfl) (by decide) ?_
                refine A_X12_fail e1107 ?_
                show z_G none 5 mX12_readLiteral 85 [some (.ref 139), some (.int a1), some (.int (z_tb q1.1)), none] [] q1106.2 Q
                refine g_aload_n dX12_readLiteral_85 rfl rfl ?_
                refine g_get (a := 137) (v := .int (q1106.2.1 137 12)) dX12_readLiteral_86 f_12_212 sh_137 rfl rfl ?_
                refine g_if_le (t := 96) dX12_readLiteral_89 (by decide) (fun c1108 => ?_) (fun c1108 => ?_)
                · replace h := z_ift c1108 h
                  refine g_aload_n dX12_readLiteral_96 rfl rfl ?_
                  obtain ⟨q1109, e1110, h⟩ := z_bd h
                  refine g_callV (a := 137) (as := []) (rest := []) (c := mX12_named) (k1 := 0) dX12_readLiteral_97 rfl rfl rfl sh_137 rfl rfl (Nat.le_of_ble_eq_true rfl) (Nat.le_of_ble_eq_true rfl) (by decide) ?_
                  refine A_X12_named e1110 ?_
                  show z_G none 5 mX12_readLiteral 100 [some (.ref 139), some (.int a1), some (.int (z_tb q1.1)), none] [.int q1109.1] q1109.2 Q
                  refine g_iload_n dX12_readLiteral_100 rfl rfl ?_
                  refine g_if_eq (t := 109) dX12_readLiteral_101 (by decide) (fun c1111 => ?_) (fun c1111 => ?_)
                  · replace h := z_iff (z_tb0.mp c1111) h
                    refine g_iconst (v := (0 : Int32)) dX12_readLiteral_109 (by decide) ?_
                    refine g_iadd dX12_readLiteral_110 ?_
                    refine g_istore_n (ls' := [some (.ref 139), some (.int a1), some (.int (z_tb q1.1)), some (.int (q1109.1 + (0 : Int32)))]) dX12_readLiteral_111 rfl (Nat.le_of_ble_eq_true rfl) rfl ?_
                    refine g_aload_n dX12_readLiteral_112 rfl rfl ?_
                    refine g_iconst (v := (1 : Int32)) dX12_readLiteral_113 (by decide) ?_
                    obtain ⟨q1112, e1113, h⟩ := z_bd h
                    refine g_callV (a := 137) (as := [.int (1 : Int32)]) (rest := []) (c := mX12_must) (k1 := 2) dX12_readLiteral_114 rfl rfl rfl sh_137 rfl rfl (Nat.le_of_ble_eq_true rfl) (Nat.le_of_ble_eq_true rfl) (by decide) ?_
                    refine A_X12_must e1113 ?_
                    show z_G none 5 mX12_readLiteral 117 [some (.ref 139), some (.int a1), some (.int (z_tb q1.1)), some (.int (q1109.1 + (0 : Int32)))] [] q1112.2 Q
                    refine g_iload_n dX12_readLiteral_117 rfl rfl ?_
                    cases h
                    exact g_iret dX12_readLiteral_118 rfl rfl hq
                  · replace h := z_ift (z_tbn.mp c1111) h
                    refine g_bipush (v := (6 : Int32)) dX12_readLiteral_104 (by decide) ?_
                    refine g_goto (t := 110) dX12_readLiteral_106 (by decide) ?_
                    refine g_iadd dX12_readLiteral_110 ?_
                    refine g_istore_n (ls' := [some (.ref 139), some (.int a1), some (.int (z_tb q1.1)), some (.int (q1109.1 + (6 : Int32)))]) dX12_readLiteral_111 rfl (Nat.le_of_ble_eq_true rfl) rfl ?_
                    refine g_aload_n dX12_readLiteral_112 rfl rfl ?_
                    refine g_iconst (v := (1 : Int32)) dX12_readLiteral_113 (by decide) ?_
                    obtain ⟨q1114, e1115, h⟩ := z_bd h
                    refine g_callV (a := 137) (as := [.int (1 : Int32)]) (rest := []) (c := mX12_must) (k1 := 2) dX12_readLiteral_114 rfl rfl rfl sh_137 rfl rfl (Nat.le_of_ble_eq_true rfl) (Nat.le_of_ble_eq_true rfl) (by decide) ?_
                    refine A_X12_must e1115 ?_
                    show z_G none 5 mX12_readLiteral 117 [some (.ref 139), some (.int a1), some (.int (z_tb q1.1)), some (.int (q1109.1 + (6 : Int32)))] [] q1114.2 Q
                    refine g_iload_n dX12_readLiteral_117 rfl rfl ?_
                    cases h
                    exact g_iret dX12_readLiteral_118 rfl rfl hq
                · replace h := z_iff c1108 h
                  refine g_iconst (v := (0 : Int32)) dX12_readLiteral_92 (by decide) ?_
                  refine g_goto (t := 111) dX12_readLiteral_93 (by decide) ?_
                  refine g_istore_n (ls' := [some (.ref 139), some (.int a1), some (.int (z_tb q1.1)), some (.int (0 : Int32))]) dX12_readLiteral_111 rfl (Nat.le_of_ble_eq_true rfl) rfl ?_
                  refine g_aload_n dX12_readLiteral_112 rfl rfl ?_
                  refine g_iconst (v := (1 : Int32)) dX12_readLiteral_113 (by decide) ?_
                  obtain ⟨q1116, e1117, h⟩ := z_bd h
                  refine g_callV (a := 137) (as := [.int (1 : Int32)]) (rest := []) (c := mX12_must) (k1 := 2) dX12_readLiteral_114 rfl rfl rfl sh_137 rfl rfl (Nat.le_of_ble_eq_true rfl) (Nat.le_of_ble_eq_true rfl) (by decide) ?_
                  refine A_X12_must e1117 ?_
                  show z_G none 5 mX12_readLiteral 117 [some (.ref 139), some (.int a1), some (.int (z_tb q1.1)), some (.int (0 : Int32))] [] q1116.2 Q
                  refine g_iload_n dX12_readLiteral_117 rfl rfl ?_
                  cases h
                  exact g_iret dX12_readLiteral_118 rfl rfl hq
            · replace h := z_ift c1094 h
              refine g_aload_n dX12_readLiteral_56 rfl rfl ?_
              obtain ⟨q1118, e1119, h⟩ := z_bd h
              refine g_callV (a := 137) (as := []) (rest := []) (c := mX12_named) (k1 := 0) dX12_readLiteral_57 rfl rfl rfl sh_137 rfl rfl (Nat.le_of_ble_eq_true rfl) (Nat.le_of_ble_eq_true rfl) (by decide) ?_
              refine A_X12_named e1119 ?_
              show z_G none 5 mX12_readLiteral 60 [some (.ref 139), some (.int a1), some (.int (z_tb q1.1)), none] [.int q1118.1] q1118.2 Q
              refine g_if_ge (t := 72) dX12_readLiteral_60 (by decide) (fun c1120 => ?_) (fun c1120 => ?_)
              · replace h := z_ift c1120 h
                refine g_iload_n dX12_readLiteral_72 rfl rfl ?_
                refine g_if_eq (t := 85) dX12_readLiteral_73 (by decide) (fun c1121 => ?_) (fun c1121 => ?_)
                · replace h := z_ift c1121 h
                  refine g_aload_n dX12_readLiteral_85 rfl rfl ?_
                  refine g_get (a := 137) (v := .int (q1118.2.1 137 12)) dX12_readLiteral_86 f_12_212 sh_137 rfl rfl ?_
                  refine g_if_le (t := 96) dX12_readLiteral_89 (by decide) (fun c1122 => ?_) (fun c1122 => ?_)
                  · replace h := z_ift c1122 h
                    refine g_aload_n dX12_readLiteral_96 rfl rfl ?_
                    obtain ⟨q1123, e1124, h⟩ := z_bd h
                    refine g_callV (a := 137) (as := []) (rest := []) (c := mX12_named) (k1 := 0) dX12_readLiteral_97 rfl rfl rfl sh_137 rfl rfl (Nat.le_of_ble_eq_true rfl) (Nat.le_of_ble_eq_true rfl) (by decide) ?_
                    refine A_X12_named e1124 ?_
                    show z_G none 5 mX12_readLiteral 100 [some (.ref 139), some (.int a1), some (.int (z_tb q1.1)), none] [.int q1123.1] q1123.2 Q
                    refine g_iload_n dX12_readLiteral_100 rfl rfl ?_
                    refine g_if_eq (t := 109) dX12_readLiteral_101 (by decide) (fun c1125 => ?_) (fun c1125 => ?_)
                    · replace h := z_iff (z_tb0.mp c1125) h
                      refine g_iconst (v := (0 : Int32)) dX12_readLiteral_109 (by decide) ?_
                      refine g_iadd dX12_readLiteral_110 ?_
                      refine g_istore_n (ls' := [some (.ref 139), some (.int a1), some (.int (z_tb q1.1)), some (.int (q1123.1 + (0 : Int32)))]) dX12_readLiteral_111 rfl (Nat.le_of_ble_eq_true rfl) rfl ?_
                      refine g_aload_n dX12_readLiteral_112 rfl rfl ?_
                      refine g_iconst (v := (1 : Int32)) dX12_readLiteral_113 (by decide) ?_
                      obtain ⟨q1126, e1127, h⟩ := z_bd h
                      refine g_callV (a := 137) (as := [.int (1 : Int32)]) (rest := []) (c := mX12_must) (k1 := 2) dX12_readLiteral_114 rfl rfl rfl sh_137 rfl rfl (Nat.le_of_ble_eq_true rfl) (Nat.le_of_ble_eq_true rfl) (by decide) ?_
                      refine A_X12_must e1127 ?_
                      show z_G none 5 mX12_readLiteral 117 [some (.ref 139), some (.int a1), some (.int (z_tb q1.1)), some (.int (q1123.1 + (0 : Int32)))] [] q1126.2 Q
                      refine g_iload_n dX12_readLiteral_117 rfl rfl ?_
                      cases h
                      exact g_iret dX12_readLiteral_118 rfl rfl hq
                    · replace h := z_ift (z_tbn.mp c1125) h
                      refine g_bipush (v := (6 : Int32)) dX12_readLiteral_104 (by decide) ?_
                      refine g_goto (t := 110) dX12_readLiteral_106 (by decide) ?_
                      refine g_iadd dX12_readLiteral_110 ?_
                      refine g_istore_n (ls' := [some (.ref 139), some (.int a1), some (.int (z_tb q1.1)), some (.int (q1123.1 + (6 : Int32)))]) dX12_readLiteral_111 rfl (Nat.le_of_ble_eq_true rfl) rfl ?_
                      refine g_aload_n dX12_readLiteral_112 rfl rfl ?_
                      refine g_iconst (v := (1 : Int32)) dX12_readLiteral_113 (by decide) ?_
                      obtain ⟨q1128, e1129, h⟩ := z_bd h
                      refine g_callV (a := 137) (as := [.int (1 : Int32)]) (rest := []) (c := mX12_must) (k1 := 2) dX12_readLiteral_114 rfl rfl rfl sh_137 rfl rfl (Nat.le_of_ble_eq_true rfl) (Nat.le_of_ble_eq_true rfl) (by decide) ?_
                      refine A_X12_must e1129 ?_
                      show z_G none 5 mX12_readLiteral 117 [some (.ref 139), some (.int a1), some (.int (z_tb q1.1)), some (.int (q1123.1 + (6 : Int32)))] [] q1128.2 Q
                      refine g_iload_n dX12_readLiteral_117 rfl rfl ?_
                      cases h
                      exact g_iret dX12_readLiteral_118 rfl rfl hq
                  · replace h := z_iff c1122 h
                    refine g_iconst (v := (0 : Int32)) dX12_readLiteral_92 (by decide) ?_
                    refine g_goto (t := 111) dX12_readLiteral_93 (by decide) ?_
                    refine g_istore_n (ls' := [some (.ref 139), some (.int a1), some (.int (z_tb q1.1)), some (.int (0 : Int32))]) dX12_readLiteral_111 rfl (Nat.le_of_ble_eq_true rfl) rfl ?_
                    refine g_aload_n dX12_readLiteral_112 rfl rfl ?_
                    refine g_iconst (v := (1 : Int32)) dX12_readLiteral_113 (by decide) ?_
                    obtain ⟨q1130, e1131, h⟩ := z_bd h
                    refine g_callV (a := 137) (as := [.int (1 : Int32)]) (rest := []) (c := mX12_must) (k1 := 2) dX12_readLiteral_114 rfl rfl rfl sh_137 rfl rfl (Nat.le_of_ble_eq_true rfl) (Nat.le_of_ble_eq_true rfl) (by decide) ?_
                    refine A_X12_must e1131 ?_
                    show z_G none 5 mX12_readLiteral 117 [some (.ref 139), some (.int a1), some (.int (z_tb q1.1)), some (.int (0 : Int32))] [] q1130.2 Q
                    refine g_iload_n dX12_readLiteral_117 rfl rfl ?_
                    cases h
                    exact g_iret dX12_readLiteral_118 rfl rfl hq
                · replace h := z_iff c1121 h
                  refine g_aload_n dX12_readLiteral_76 rfl rfl ?_
                  refine g_iconst (v := (5 : Int32)) dX12_readLiteral_77 (by decide) ?_
                  refine g_aload_n dX12_readLiteral_78 rfl rfl ?_
                  refine g_get (a := 137) (v := .int (q1118.2.1 137 15)) dX12_readLiteral_79 f_12_106 sh_137 rfl rfl ?_
                  obtain ⟨q1132, e1133, h⟩ := z_bd h
                  refine g_callV (a := 137) (as := [.int (5 : Int32), .int (q1118.2.1 137 15)]) (rest := []) (c := mX12_fail) (k1 := 0) dX12_readLiteral_82 rfl rfl rfl sh_137 rfl rfl (Nat.le_of_ble_eq_true rfl) (Nat.le_of_ble_eq_true rfl) (by decide) ?_
                  refine A_X12_fail e1133 ?_
                  show z_G none 5 mX12_readLiteral 85 [some (.ref 139), some (.int a1), some (.int (z_tb q1.1)), none] [] q1132.2 Q
                  refine g_aload_n dX12_readLiteral_85 rfl rfl ?_
                  refine g_get (a := 137) (v := .int (q1132.2.1 137 12)) dX12_readLiteral_86 f_12_212 sh_137 rfl rfl ?_
                  refine g_if_le (t := 96) dX12_readLiteral_89 (by decide) (fun c1134 => ?_) (fun c1134 => ?_)
                  · replace h := z_ift c1134 h
                    refine g_aload_n dX12_readLiteral_96 rfl rfl ?_
                    obtain ⟨q1135, e1136, h⟩ := z_bd h
                    refine g_callV (a := 137) (as := []) (rest := []) (c := mX12_named) (k1 := 0) dX12_readLiteral_97 rfl rfl rfl sh_137 rfl rfl (Nat.le_of_ble_eq_true rfl) (Nat.le_of_ble_eq_true rfl) (by decide) ?_
                    refine A_X12_named e1136 ?_
                    show z_G none 5 mX12_readLiteral 100 [some (.ref 139), some (.int a1), some (.int (z_tb q1.1)), none] [.int q1135.1] q1135.2 Q
                    refine g_iload_n dX12_readLiteral_100 rfl rfl ?_
                    refine g_if_eq (t := 109) dX12_readLiteral_101 (by decide) (fun c1137 => ?_) (fun c1137 => ?_)
                    · replace h := z_iff (z_tb0.mp c1137) h
                      refine g_iconst (v := (0 : Int32)) dX12_readLiteral_109 (by decide) ?_
                      refine g_iadd dX12_readLiteral_110 ?_
                      refine g_istore_n (ls' := [some (.ref 139), some (.int a1), some (.int (z_tb q1.1)), some (.int (q1135.1 + (0 : Int32)))]) dX12_readLiteral_111 rfl (Nat.le_of_ble_eq_true rfl) rfl ?_
                      refine g_aload_n dX12_readLiteral_112 rfl rfl ?_
                      refine g_iconst (v := (1 : Int32)) dX12_readLiteral_113 (by decide) ?_
                      obtain ⟨q1138, e1139, h⟩ := z_bd h
                      refine g_callV (a := 137) (as := [.int (1 : Int32)]) (rest := []) (c := mX12_must) (k1 := 2) dX12_readLiteral_114 rfl rfl rfl sh_137 rfl rfl (Nat.le_of_ble_eq_true rfl) (Nat.le_of_ble_eq_true rfl) (by decide) ?_
                      refine A_X12_must e1139 ?_
                      show z_G none 5 mX12_readLiteral 117 [some (.ref 139), some (.int a1), some (.int (z_tb q1.1)), some (.int (q1135.1 + (0 : Int32)))] [] q1138.2 Q
                      refine g_iload_n dX12_readLiteral_117 rfl rfl ?_
                      cases h
                      exact g_iret dX12_readLiteral_118 rfl rfl hq
                    · replace h := z_ift (z_tbn.mp c1137) h
                      refine g_bipush (v := (6 : Int32)) dX12_readLiteral_104 (by decide) ?_
                      refine g_goto (t := 110) dX12_readLiteral_106 (by decide) ?_
                      refine g_iadd dX12_readLiteral_110 ?_
                      refine g_istore_n (ls' := [some (.ref 139), some (.int a1), some (.int (z_tb q1.1)), some (.int (q1135.1 + (6 : Int32)))]) dX12_readLiteral_111 rfl (Nat.le_of_ble_eq_true rfl) rfl ?_
                      refine g_aload_n dX12_readLiteral_112 rfl rfl ?_
                      refine g_iconst (v := (1 : Int32)) dX12_readLiteral_113 (by decide) ?_
                      obtain ⟨q1140, e1141, h⟩ := z_bd h
                      refine g_callV (a := 137) (as := [.int (1 : Int32)]) (rest := []) (c := mX12_must) (k1 := 2) dX12_readLiteral_114 rfl rfl rfl sh_137 rfl rfl (Nat.le_of_ble_eq_true rfl) (Nat.le_of_ble_eq_true rfl) (by decide) ?_
                      refine A_X12_must e1141 ?_
                      show z_G none 5 mX12_readLiteral 117 [some (.ref 139), some (.int a1), some (.int (z_tb q1.1)), some (.int (q1135.1 + (6 : Int32)))] [] q1140.2 Q
                      refine g_iload_n dX12_readLiteral_117 rfl rfl ?_
                      cases h
                      exact g_iret dX12_readLiteral_118 rfl rfl hq
                  · replace h := z_iff c1134 h
                    refine g_iconst (v := (0 : Int32)) dX12_readLiteral_92 (by decide) ?_
                    refine g_goto (t := 111) dX12_readLiteral_93 (by decide) ?_
                    refine g_istore_n (ls' := [some (.ref 139), some (.int a1), some (.int (z_tb q1.1)), some (.int (0 : Int32))]) dX12_readLiteral_111 rfl (Nat.le_of_ble_eq_true rfl) rfl ?_
                    refine g_aload_n dX12_readLiteral_112 rfl rfl ?_
                    refine g_iconst (v := (1 : Int32)) dX12_readLiteral_113 (by decide) ?_
                    obtain ⟨q1142, e1143, h⟩ := z_bd h
                    refine g_callV (a := 137) (as := [.int (1 : Int32)]) (rest := []) (c := mX12_must) (k1 := 2) dX12_readLiteral_114 rfl rfl rfl sh_137 rfl rfl (Nat.le_of_ble_eq_true rfl) (Nat.le_of_ble_eq_true rfl) (by decide) ?_
                    refine A_X12_must e1143 ?_
                    show z_G none 5 mX12_readLiteral 117 [some (.ref 139), some (.int a1), some (.int (z_tb q1.1)), some (.int (0 : Int32))] [] q1142.2 Q
                    refine g_iload_n dX12_readLiteral_117 rfl rfl ?_
                    cases h
                    exact g_iret dX12_readLiteral_118 rfl rfl hq
              · replace h := z_iff c1120 h
                refine g_aload_n dX12_readLiteral_63 rfl rfl ?_
                refine g_iconst (v := (3 : Int32)) dX12_readLiteral_64 (by decide) ?_
                refine g_aload_n dX12_readLiteral_65 rfl rfl ?_
                refine g_get (a := 137) (v := .int (q1118.2.1 137 15)) dX12_readLiteral_66 f_12_106 sh_137 rfl rfl ?_
                obtain ⟨q1144, e1145, h⟩ := z_bd h
                refine g_callV (a := 137) (as := [.int (3 : Int32), .int (q1118.2.1 137 15)]) (rest := []) (c := mX12_fail) (k1 := 0) dX12_readLiteral_69 rfl rfl rfl sh_137 rfl rfl (Nat.le_of_ble_eq_true rfl) (Nat.le_of_ble_eq_true rfl) (by decide) ?_
                refine A_X12_fail e1145 ?_
                show z_G none 5 mX12_readLiteral 72 [some (.ref 139), some (.int a1), some (.int (z_tb q1.1)), none] [] q1144.2 Q
                refine g_iload_n dX12_readLiteral_72 rfl rfl ?_
                refine g_if_eq (t := 85) dX12_readLiteral_73 (by decide) (fun c1146 => ?_) (fun c1146 => ?_)
                · replace h := z_ift c1146 h
                  refine g_aload_n dX12_readLiteral_85 rfl rfl ?_
                  refine g_get (a := 137) (v := .int (q1144.2.1 137 12)) dX12_readLiteral_86 f_12_212 sh_137 rfl rfl ?_
                  refine g_if_le (t := 96) dX12_readLiteral_89 (by decide) (fun c1147 => ?_) (fun c1147 => ?_)
                  · replace h := z_ift c1147 h
                    refine g_aload_n dX12_readLiteral_96 rfl rfl ?_
                    obtain ⟨q1148, e1149, h⟩ := z_bd h
                    refine g_callV (a := 137) (as := []) (rest := []) (c := mX12_named) (k1 := 0) dX12_readLiteral_97 rfl rfl rfl sh_137 rfl rfl (Nat.le_of_ble_eq_true rfl) (Nat.le_of_ble_eq_true rfl) (by decide) ?_
                    refine A_X12_named e1149 ?_
                    show z_G none 5 mX12_readLiteral 100 [some (.ref 139), some (.int a1), some (.int (z_tb q1.1)), none] [.int q1148.1] q1148.2 Q
                    refine g_iload_n dX12_readLiteral_100 rfl rfl ?_
                    refine g_if_eq (t := 109) dX12_readLiteral_101 (by decide) (fun c1150 => ?_) (fun c1150 => ?_)
                    · replace h := z_iff (z_tb0.mp c1150) h
                      refine g_iconst (v := (0 : Int32)) dX12_readLiteral_109 (by decide) ?_
                      refine g_iadd dX12_readLiteral_110 ?_
                      refine g_istore_n (ls' := [some (.ref 139), some (.int a1), some (.int (z_tb q1.1)), some (.int (q1148.1 + (0 : Int32)))]) dX12_readLiteral_111 rfl (Nat.le_of_ble_eq_true rfl) rfl ?_
                      refine g_aload_n dX12_readLiteral_112 rfl rfl ?_
                      refine g_iconst (v := (1 : Int32)) dX12_readLiteral_113 (by decide) ?_
                      obtain ⟨q1151, e1152, h⟩ := z_bd h
                      refine g_callV (a := 137) (as := [.int (1 : Int32)]) (rest := []) (c := mX12_must) (k1 := 2) dX12_readLiteral_114 rfl rfl rfl sh_137 rfl rfl (Nat.le_of_ble_eq_true rfl) (Nat.le_of_ble_eq_true rfl) (by decide) ?_
                      refine A_X12_must e1152 ?_
                      show z_G none 5 mX12_readLiteral 117 [some (.ref 139), some (.int a1), some (.int (z_tb q1.1)), some (.int (q1148.1 + (0 : Int32)))] [] q1151.2 Q
                      refine g_iload_n dX12_readLiteral_117 rfl rfl ?_
                      cases h
                      exact g_iret dX12_readLiteral_118 rfl rfl hq
                    · replace h := z_ift (z_tbn.mp c1150) h
                      refine g_bipush (v := (6 : Int32)) dX12_readLiteral_104 (by decide) ?_
                      refine g_goto (t := 110) dX12_readLiteral_106 (by decide) ?_
                      refine g_iadd dX12_readLiteral_110 ?_
                      refine g_istore_n (ls' := [some (.ref 139), some (.int a1), some (.int (z_tb q1.1)), some (.int (q1148.1 + (6 : Int32)))]) dX12_readLiteral_111 rfl (Nat.le_of_ble_eq_true rfl) rfl ?_
                      refine g_aload_n dX12_readLiteral_112 rfl rfl ?_
                      refine g_iconst (v := (1 : Int32)) dX12_readLiteral_113 (by decide) ?_
                      obtain ⟨q1153, e1154, h⟩ := z_bd h
                      refine g_callV (a := 137) (as := [.int (1 : Int32)]) (rest := []) (c := mX12_must) (k1 := 2) dX12_readLiteral_114 rfl rfl rfl sh_137 rfl rfl (Nat.le_of_ble_eq_true rfl) (Nat.le_of_ble_eq_true rfl) (by decide) ?_
                      refine A_X12_must e1154 ?_
                      show z_G none 5 mX12_readLiteral 117 [some (.ref 139), some (.int a1), some (.int (z_tb q1.1)), some (.int (q1148.1 + (6 : Int32)))] [] q1153.2 Q
                      refine g_iload_n dX12_readLiteral_117 rfl rfl ?_
                      cases h
                      exact g_iret dX12_readLiteral_118 rfl rfl hq
                  · replace h := z_iff c1147 h
                    refine g_iconst (v := (0 : Int32)) dX12_readLiteral_92 (by decide) ?_
                    refine g_goto (t := 111) dX12_readLiteral_93 (by decide) ?_
                    refine g_istore_n (ls' := [some (.ref 139), some (.int a1), some (.int (z_tb q1.1)), some (.int (0 : Int32))]) dX12_readLiteral_111 rfl (Nat.le_of_ble_eq_true rfl) rfl ?_
                    refine g_aload_n dX12_readLiteral_112 rfl rfl ?_
                    refine g_iconst (v := (1 : Int32)) dX12_readLiteral_113 (by decide) ?_
                    obtain ⟨q1155, e1156, h⟩ := z_bd h
                    refine g_callV (a := 137) (as := [.int (1 : Int32)]) (rest := []) (c := mX12_must) (k1 := 2) dX12_readLiteral_114 rfl rfl rfl sh_137 rfl rfl (Nat.le_of_ble_eq_true rfl) (Nat.le_of_ble_eq_true rfl) (by decide) ?_
                    refine A_X12_must e1156 ?_
                    show z_G none 5 mX12_readLiteral 117 [some (.ref 139), some (.int a1), some (.int (z_tb q1.1)), some (.int (0 : Int32))] [] q1155.2 Q
                    refine g_iload_n dX12_readLiteral_117 rfl rfl ?_
                    cases h
                    exact g_iret dX12_readLiteral_118 rfl rfl hq
                · replace h := z_iff c1146 h
                  refine g_aload_n dX12_readLiteral_76 rfl rfl ?_
                  refine g_iconst (v := (5 : Int32)) dX12_readLiteral_77 (by decide) ?_
                  refine g_aload_n dX12_readLiteral_78 rfl rfl ?_
                  refine g_get (a := 137) (v := .int (q1144.2.1 137 15)) dX12_readLiteral_79 f_12_106 sh_137 rfl rfl ?_
                  obtain ⟨q1157, e1158, h⟩ := z_bd h
                  refine g_callV (a := 137) (as := [.int (5 : Int32), .int (q1144.2.1 137 15)]) (rest := []) (c := mX12_fail) (k1 := 0) dX12_readLiteral_82 rfl rfl rfl sh_137 rfl rfl (Nat.le_of_ble_eq_true rfl) (Nat.le_of_ble_eq_true rfl) (by decide) ?_
                  refine A_X12_fail e1158 ?_
                  show z_G none 5 mX12_readLiteral 85 [some (.ref 139), some (.int a1), some (.int (z_tb q1.1)), none] [] q1157.2 Q
                  refine g_aload_n dX12_readLiteral_85 rfl rfl ?_
                  refine g_get (a := 137) (v := .int (q1157.2.1 137 12)) dX12_readLiteral_86 f_12_212 sh_137 rfl rfl ?_
                  refine g_if_le (t := 96) dX12_readLiteral_89 (by decide) (fun c1159 => ?_) (fun c1159 => ?_)
                  · replace h := z_ift c1159 h
                    refine g_aload_n dX12_readLiteral_96 rfl rfl ?_
                    obtain ⟨q1160, e1161, h⟩ := z_bd h
                    refine g_callV (a := 137) (as := []) (rest := []) (c := mX12_named) (k1 := 0) dX12_readLiteral_97 rfl rfl rfl sh_137 rfl rfl (Nat.le_of_ble_eq_true rfl) (Nat.le_of_ble_eq_true rfl) (by decide) ?_
                    refine A_X12_named e1161 ?_
                    show z_G none 5 mX12_readLiteral 100 [some (.ref 139), some (.int a1), some (.int (z_tb q1.1)), none] [.int q1160.1] q1160.2 Q
                    refine g_iload_n dX12_readLiteral_100 rfl rfl ?_
                    refine g_if_eq (t := 109) dX12_readLiteral_101 (by decide) (fun c1162 => ?_) (fun c1162 => ?_)
                    · replace h := z_iff (z_tb0.mp c1162) h
                      refine g_iconst (v := (0 : Int32)) dX12_readLiteral_109 (by decide) ?_
                      refine g_iadd dX12_readLiteral_110 ?_
                      refine g_istore_n (ls' := [some (.ref 139), some (.int a1), some (.int (z_tb q1.1)), some (.int (q1160.1 + (0 : Int32)))]) dX12_readLiteral_111 rfl (Nat.le_of_ble_eq_true rfl) rfl ?_
                      refine g_aload_n dX12_readLiteral_112 rfl rfl ?_
                      refine g_iconst (v := (1 : Int32)) dX12_readLiteral_113 (by decide) ?_
                      obtain ⟨q1163, e1164, h⟩ := z_bd h
                      refine g_callV (a := 137) (as := [.int (1 : Int32)]) (rest := []) (c := mX12_must) (k1 := 2) dX12_readLiteral_114 rfl rfl rfl sh_137 rfl rfl (Nat.le_of_ble_eq_true rfl) (Nat.le_of_ble_eq_true rfl) (by decide) ?_
                      refine A_X12_must e1164 ?_
                      show z_G none 5 mX12_readLiteral 117 [some (.ref 139), some (.int a1), some (.int (z_tb q1.1)), some (.int (q1160.1 + (0 : Int32)))] [] q1163.2 Q
                      refine g_iload_n dX12_readLiteral_117 rfl rfl ?_
                      cases h
                      exact g_iret dX12_readLiteral_118 rfl rfl hq
                    · replace h := z_ift (z_tbn.mp c1162) h
                      refine g_bipush (v := (6 : Int32)) dX12_readLiteral_104 (by decide) ?_
                      refine g_goto (t := 110) dX12_readLiteral_106 (by decide) ?_
                      refine g_iadd dX12_readLiteral_110 ?_
                      refine g_istore_n (ls' := [some (.ref 139), some (.int a1), some (.int (z_tb q1.1)), some (.int (q1160.1 + (6 : Int32)))]) dX12_readLiteral_111 rfl (Nat.le_of_ble_eq_true rfl) rfl ?_
                      refine g_aload_n dX12_readLiteral_112 rfl rfl ?_
                      refine g_iconst (v := (1 : Int32)) dX12_readLiteral_113 (by decide) ?_
                      obtain ⟨q1165, e1166, h⟩ := z_bd h
                      refine g_callV (a := 137) (as := [.int (1 : Int32)]) (rest := []) (c := mX12_must) (k1 := 2) dX12_readLiteral_114 rfl rfl rfl sh_137 rfl rfl (Nat.le_of_ble_eq_true rfl) (Nat.le_of_ble_eq_true rfl) (by decide) ?_
                      refine A_X12_must e1166 ?_
                      show z_G none 5 mX12_readLiteral 117 [some (.ref 139), some (.int a1), some (.int (z_tb q1.1)), some (.int (q1160.1 + (6 : Int32)))] [] q1165.2 Q
                      refine g_iload_n dX12_readLiteral_117 rfl rfl ?_
                      cases h
                      exact g_iret dX12_readLiteral_118 rfl rfl hq
                  · replace h := z_iff c1159 h
                    refine g_iconst (v := (0 : Int32)) dX12_readLiteral_92 (by decide) ?_
                    refine g_goto (t := 111) dX12_readLiteral_93 (by decide) ?_
                    refine g_istore_n (ls' := [some (.ref 139), some (.int a1), some (.int (z_tb q1.1)), some (.int (0 : Int32))]) dX12_readLiteral_111 rfl (Nat.le_of_ble_eq_true rfl) rfl ?_
                    refine g_aload_n dX12_readLiteral_112 rfl rfl ?_
                    refine g_iconst (v := (1 : Int32)) dX12_readLiteral_113 (by decide) ?_
                    obtain ⟨q1167, e1168, h⟩ := z_bd h
                    refine g_callV (a := 137) (as := [.int (1 : Int32)]) (rest := []) (c := mX12_must) (k1 := 2) dX12_readLiteral_114 rfl rfl rfl sh_137 rfl rfl (Nat.le_of_ble_eq_true rfl) (Nat.le_of_ble_eq_true rfl) (by decide) ?_
                    refine A_X12_must e1168 ?_
                    show z_G none 5 mX12_readLiteral 117 [some (.ref 139), some (.int a1), some (.int (z_tb q1.1)), some (.int (0 : Int32))] [] q1167.2 Q
                    refine g_iload_n dX12_readLiteral_117 rfl rfl ?_
                    cases h
                    exact g_iret dX12_readLiteral_118 rfl rfl hq
      · replace h := z_ift (z_tbn.mp c937) h
        refine g_aload_n dX12_readLiteral_26 rfl rfl ?_
        refine g_iconst (v := (1 : Int32)) dX12_readLiteral_27 (by decide) ?_
        obtain ⟨q1169, e1170, h⟩ := z_bd h
        refine g_callV (a := 137) (as := [.int (1 : Int32)]) (rest := []) (c := mX12_must) (k1 := 2) dX12_readLiteral_28 rfl rfl rfl sh_137 rfl rfl (Nat.le_of_ble_eq_true rfl) (Nat.le_of_ble_eq_true rfl) (by decide) ?_
        refine A_X12_must e1170 ?_
        show z_G none 5 mX12_readLiteral 31 [some (.ref 139), some (.int a1), some (.int (z_tb q1.1)), none] [] q1169.2 Q
        refine g_aload_n dX12_readLiteral_31 rfl rfl ?_
        refine g_get (a := 137) (v := .int (q1169.2.1 137 12)) dX12_readLiteral_32 f_12_212 sh_137 rfl rfl ?_
        refine g_if_ne (t := 49) dX12_readLiteral_35 (by decide) (fun c1171 => ?_) (fun c1171 => ?_)
        · replace h := z_iff c1171 h
          refine g_aload_n dX12_readLiteral_49 rfl rfl ?_
          refine g_get (a := 137) (v := .int (q1169.2.1 137 12)) dX12_readLiteral_50 f_12_212 sh_137 rfl rfl ?_
          refine g_if_ne (t := 72) dX12_readLiteral_53 (by decide) (fun c1172 => ?_) (fun c1172 => ?_)
          · replace h := z_iff c1172 h
            refine g_iload_n dX12_readLiteral_72 rfl rfl ?_
            refine g_if_eq (t := 85) dX12_readLiteral_73 (by decide) (fun c1173 => ?_) (fun c1173 => ?_)
            · replace h := z_ift c1173 h
              refine g_aload_n dX12_readLiteral_85 rfl rfl ?_
              refine g_get (a := 137) (v := .int (q1169.2.1 137 12)) dX12_readLiteral_86 f_12_212 sh_137 rfl rfl ?_
              refine g_if_le (t := 96) dX12_readLiteral_89 (by decide) (fun c1174 => ?_) (fun c1174 => ?_)
              · replace h := z_ift c1174 h
                refine g_aload_n dX12_readLiteral_96 rfl rfl ?_
                obtain ⟨q1175, e1176, h⟩ := z_bd h
                refine g_callV (a := 137) (as := []) (rest := []) (c := mX12_named) (k1 := 0) dX12_readLiteral_97 rfl rfl rfl sh_137 rfl rfl (Nat.le_of_ble_eq_true rfl) (Nat.le_of_ble_eq_true rfl) (by decide) ?_
                refine A_X12_named e1176 ?_
                show z_G none 5 mX12_readLiteral 100 [some (.ref 139), some (.int a1), some (.int (z_tb q1.1)), none] [.int q1175.1] q1175.2 Q
                refine g_iload_n dX12_readLiteral_100 rfl rfl ?_
                refine g_if_eq (t := 109) dX12_readLiteral_101 (by decide) (fun c1177 => ?_) (fun c1177 => ?_)
                · replace h := z_iff (z_tb0.mp c1177) h
                  refine g_iconst (v := (0 : Int32)) dX12_readLiteral_109 (by decide) ?_
                  refine g_iadd dX12_readLiteral_110 ?_
                  refine g_istore_n (ls' := [some (.ref 139), some (.int a1), some (.int (z_tb q1.1)), some (.int (q1175.1 + (0 : Int32)))]) dX12_readLiteral_111 rfl (Nat.le_of_ble_eq_true rfl) rfl ?_
                  refine g_aload_n dX12_readLiteral_112 rfl rfl ?_
                  refine g_iconst (v := (1 : Int32)) dX12_readLiteral_113 (by decide) ?_
                  obtain ⟨q1178, e1179, h⟩ := z_bd h
                  refine g_callV (a := 137) (as := [.int (1 : Int32)]) (rest := []) (c := mX12_must) (k1 := 2) dX12_readLiteral_114 rfl rfl rfl sh_137 rfl rfl (Nat.le_of_ble_eq_true rfl) (Nat.le_of_ble_eq_true rfl) (by decide) ?_
                  refine A_X12_must e1179 ?_
                  show z_G none 5 mX12_readLiteral 117 [some (.ref 139), some (.int a1), some (.int (z_tb q1.1)), some (.int (q1175.1 + (0 : Int32)))] [] q1178.2 Q
                  refine g_iload_n dX12_readLiteral_117 rfl rfl ?_
                  cases h
                  exact g_iret dX12_readLiteral_118 rfl rfl hq
                · replace h := z_ift (z_tbn.mp c1177) h
                  refine g_bipush (v := (6 : Int32)) dX12_readLiteral_104 (by decide) ?_
                  refine g_goto (t := 110) dX12_readLiteral_106 (by decide) ?_
                  refine g_iadd dX12_readLiteral_110 ?_
                  refine g_istore_n (ls' := [some (.ref 139), some (.int a1), some (.int (z_tb q1.1)), some (.int (q1175.1 + (6 : Int32)))]) dX12_readLiteral_111 rfl (Nat.le_of_ble_eq_true rfl) rfl ?_
                  refine g_aload_n dX12_readLiteral_112 rfl rfl ?_
                  refine g_iconst (v := (1 : Int32)) dX12_readLiteral_113 (by decide) ?_
                  obtain ⟨q1180, e1181, h⟩ := z_bd h
                  refine g_callV (a := 137) (as := [.int (1 : Int32)]) (rest := []) (c := mX12_must) (k1 := 2) dX12_readLiteral_114 rfl rfl rfl sh_137 rfl rfl (Nat.le_of_ble_eq_true rfl) (Nat.le_of_ble_eq_true rfl) (by decide) ?_
                  refine A_X12_must e1181 ?_
                  show z_G none 5 mX12_readLiteral 117 [some (.ref 139), some (.int a1), some (.int (z_tb q1.1)), some (.int (q1175.1 + (6 : Int32)))] [] q1180.2 Q
                  refine g_iload_n dX12_readLiteral_117 rfl rfl ?_
                  cases h
                  exact g_iret dX12_readLiteral_118 rfl rfl hq
              · replace h := z_iff c1174 h
                refine g_iconst (v := (0 : Int32)) dX12_readLiteral_92 (by decide) ?_
                refine g_goto (t := 111) dX12_readLiteral_93 (by decide) ?_
                refine g_istore_n (ls' := [some (.ref 139), some (.int a1), some (.int (z_tb q1.1)), some (.int (0 : Int32))]) dX12_readLiteral_111 rfl (Nat.le_of_ble_eq_true rfl) rfl ?_
                refine g_aload_n dX12_readLiteral_112 rfl rfl ?_
                refine g_iconst (v := (1 : Int32)) dX12_readLiteral_113 (by decide) ?_
                obtain ⟨q1182, e1183, h⟩ := z_bd h
                refine g_callV (a := 137) (as := [.int (1 : Int32)]) (rest := []) (c := mX12_must) (k1 := 2) dX12_readLiteral_114 rfl rfl rfl sh_137 rfl rfl (Nat.le_of_ble_eq_true rfl) (Nat.le_of_ble_eq_true rfl) (by decide) ?_
                refine A_X12_must e1183 ?_
                show z_G none 5 mX12_readLiteral 117 [some (.ref 139), some (.int a1), some (.int (z_tb q1.1)), some (.int (0 : Int32))] [] q1182.2 Q
                refine g_iload_n dX12_readLiteral_117 rfl rfl ?_
                cases h
                exact g_iret dX12_readLiteral_118 rfl rfl hq
            · replace h := z_iff c1173 h
              refine g_aload_n dX12_readLiteral_76 rfl rfl ?_
              refine g_iconst (v := (5 : Int32)) dX12_readLiteral_77 (by decide) ?_
              refine g_aload_n dX12_readLiteral_78 rfl rfl ?_
              refine g_get (a := 137) (v := .int (q1169.2.1 137 15)) dX12_readLiteral_79 f_12_106 sh_137 rfl rfl ?_
              obtain ⟨q1184, e1185, h⟩ := z_bd h
              refine g_callV (a := 137) (as := [.int (5 : Int32), .int (q1169.2.1 137 15)]) (rest := []) (c := mX12_fail) (k1 := 0) dX12_readLiteral_82 rfl rfl rfl sh_137 rfl rfl (Nat.le_of_ble_eq_true rfl) (Nat.le_of_ble_eq_true rfl) (by decide) ?_
              refine A_X12_fail e1185 ?_
              show z_G none 5 mX12_readLiteral 85 [some (.ref 139), some (.int a1), some (.int (z_tb q1.1)), none] [] q1184.2 Q
              refine g_aload_n dX12_readLiteral_85 rfl rfl ?_
              refine g_get (a := 137) (v := .int (q1184.2.1 137 12)) dX12_readLiteral_86 f_12_212 sh_137 rfl rfl ?_
              refine g_if_le (t := 96) dX12_readLiteral_89 (by decide) (fun c1186 => ?_) (fun c1186 => ?_)
              · replace h := z_ift c1186 h
                refine g_aload_n dX12_readLiteral_96 rfl rfl ?_
                obtain ⟨q1187, e1188, h⟩ := z_bd h
                refine g_callV (a := 137) (as := []) (rest := []) (c := mX12_named) (k1 := 0) dX12_readLiteral_97 rfl rfl rfl sh_137 rfl rfl (Nat.le_of_ble_eq_true rfl) (Nat.le_of_ble_eq_true rfl) (by decide) ?_
                refine A_X12_named e1188 ?_
                show z_G none 5 mX12_readLiteral 100 [some (.ref 139), some (.int a1), some (.int (z_tb q1.1)), none] [.int q1187.1] q1187.2 Q
                refine g_iload_n dX12_readLiteral_100 rfl rfl ?_
                refine g_if_eq (t := 109) dX12_readLiteral_101 (by decide) (fun c1189 => ?_) (fun c1189 => ?_)
                · replace h := z_iff (z_tb0.mp c1189) h
                  refine g_iconst (v := (0 : Int32)) dX12_readLiteral_109 (by decide) ?_
                  refine g_iadd dX12_readLiteral_110 ?_
                  refine g_istore_n (ls' := [some (.ref 139), some (.int a1), some (.int (z_tb q1.1)), some (.int (q1187.1 + (0 : Int32)))]) dX12_readLiteral_111 rfl (Nat.le_of_ble_eq_true rfl) rfl ?_
                  refine g_aload_n dX12_readLiteral_112 rfl rfl ?_
                  refine g_iconst (v := (1 : Int32)) dX12_readLiteral_113 (by decide) ?_
                  obtain ⟨q1190, e1191, h⟩ := z_bd h
                  refine g_callV (a := 137) (as := [.int (1 : Int32)]) (rest := []) (c := mX12_must) (k1 := 2) dX12_readLiteral_114 rfl rfl rfl sh_137 rfl rfl (Nat.le_of_ble_eq_true rfl) (Nat.le_of_ble_eq_true rfl) (by decide) ?_
                  refine A_X12_must e1191 ?_
                  show z_G none 5 mX12_readLiteral 117 [some (.ref 139), some (.int a1), some (.int (z_tb q1.1)), some (.int (q1187.1 + (0 : Int32)))] [] q1190.2 Q
                  refine g_iload_n dX12_readLiteral_117 rfl rfl ?_
                  cases h
                  exact g_iret dX12_readLiteral_118 rfl rfl hq
                · replace h := z_ift (z_tbn.mp c1189) h
                  refine g_bipush (v := (6 : Int32)) dX12_readLiteral_104 (by decide) ?_
                  refine g_goto (t := 110) dX12_readLiteral_106 (by decide) ?_
                  refine g_iadd dX12_readLiteral_110 ?_
                  refine g_istore_n (ls' := [some (.ref 139), some (.int a1), some (.int (z_tb q1.1)), some (.int (q1187.1 + (6 : Int32)))]) dX12_readLiteral_111 rfl (Nat.le_of_ble_eq_true rfl) rfl ?_
                  refine g_aload_n dX12_readLiteral_112 rfl rfl ?_
                  refine g_iconst (v := (1 : Int32)) dX12_readLiteral_113 (by decide) ?_
                  obtain ⟨q1192, e1193, h⟩ := z_bd h
                  refine g_callV (a := 137) (as := [.int (1 : Int32)]) (rest := []) (c := mX12_must) (k1 := 2) dX12_readLiteral_114 rfl rfl rfl sh_137 rfl rfl (Nat.le_of_ble_eq_true rfl) (Nat.le_of_ble_eq_true rfl) (by decide) ?_
                  refine A_X12_must e1193 ?_
                  show z_G none 5 mX12_readLiteral 117 [some (.ref 139), some (.int a1), some (.int (z_tb q1.1)), some (.int (q1187.1 + (6 : Int32)))] [] q1192.2 Q
                  refine g_iload_n dX12_readLiteral_117 rfl rfl ?_
                  cases h
                  exact g_iret dX12_readLiteral_118 rfl rfl hq
              · replace h := z_iff c1186 h
                refine g_iconst (v := (0 : Int32)) dX12_readLiteral_92 (by decide) ?_
                refine g_goto (t := 111) dX12_readLiteral_93 (by decide) ?_
                refine g_istore_n (ls' := [some (.ref 139), some (.int a1), some (.int (z_tb q1.1)), some (.int (0 : Int32))]) dX12_readLiteral_111 rfl (Nat.le_of_ble_eq_true rfl) rfl ?_
                refine g_aload_n dX12_readLiteral_112 rfl rfl ?_
                refine g_iconst (v := (1 : Int32)) dX12_readLiteral_113 (by decide) ?_
                obtain ⟨q1194, e1195, h⟩ := z_bd h
                refine g_callV (a := 137) (as := [.int (1 : Int32)]) (rest := []) (c := mX12_must) (k1 := 2) dX12_readLiteral_114 rfl rfl rfl sh_137 rfl rfl (Nat.le_of_ble_eq_true rfl) (Nat.le_of_ble_eq_true rfl) (by decide) ?_
                refine A_X12_must e1195 ?_
                show z_G none 5 mX12_readLiteral 117 [some (.ref 139), some (.int a1), some (.int (z_tb q1.1)), some (.int (0 : Int32))] [] q1194.2 Q
                refine g_iload_n dX12_readLiteral_117 rfl rfl ?_
                cases h
                exact g_iret dX12_readLiteral_118 rfl rfl hq
          · replace h := z_ift c1172 h
            refine g_aload_n dX12_readLiteral_56 rfl rfl ?_
            obtain ⟨q1196, e1197, h⟩ := z_bd h
            refine g_callV (a := 137) (as := []) (rest := []) (c := mX12_named) (k1 := 0) dX12_readLiteral_57 rfl rfl rfl sh_137 rfl rfl (Nat.le_of_ble_eq_true rfl) (Nat.le_of_ble_eq_true rfl) (by decide) ?_
            refine A_X12_named e1197 ?_
            show z_G none 5 mX12_readLiteral 60 [some (.ref 139), some (.int a1), some (.int (z_tb q1.1)), none] [.int q1196.1] q1196.2 Q
            refine g_if_ge (t := 72) dX12_readLiteral_60 (by decide) (fun c1198 => ?_) (fun c1198 => ?_)
            · replace h := z_ift c1198 h
              refine g_iload_n dX12_readLiteral_72 rfl rfl ?_
              refine g_if_eq (t := 85) dX12_readLiteral_73 (by decide) (fun c1199 => ?_) (fun c1199 => ?_)
              · replace h := z_ift c1199 h
                refine g_aload_n dX12_readLiteral_85 rfl rfl ?_
                refine g_get (a := 137) (v := .int (q1196.2.1 137 12)) dX12_readLiteral_86 f_12_212 sh_137 rfl rfl ?_
                refine g_if_le (t := 96) dX12_readLiteral_89 (by decide) (fun c1200 => ?_) (fun c1200 => ?_)
                · replace h := z_ift c1200 h
                  refine g_aload_n dX12_readLiteral_96 rfl rfl ?_
                  obtain ⟨q1201, e1202, h⟩ := z_bd h
                  refine g_callV (a := 137) (as := []) (rest := []) (c := mX12_named) (k1 := 0) dX12_readLiteral_97 rfl rfl rfl sh_137 rfl rfl (Nat.le_of_ble_eq_true rfl) (Nat.le_of_ble_eq_true rfl) (by decide) ?_
                  refine A_X12_named e1202 ?_
                  show z_G none 5 mX12_readLiteral 100 [some (.ref 139), some (.int a1), some (.int (z_tb q1.1)), none] [.int q1201.1] q1201.2 Q
                  refine g_iload_n dX12_readLiteral_100 rfl rfl ?_
                  refine g_if_eq (t := 109) dX12_readLiteral_101 (by decide) (fun c1203 => ?_) (fun c1203 => ?_)
                  · replace h := z_iff (z_tb0.mp c1203) h
                    refine g_iconst (v := (0 : Int32)) dX12_readLiteral_109 (by decide) ?_
                    refine g_iadd dX12_readLiteral_110 ?_
                    refine g_istore_n (ls' := [some (.ref 139), some (.int a1), some (.int (z_tb q1.1)), some (.int (q1201.1 + (0 : Int32)))]) dX12_readLiteral_111 rfl (Nat.le_of_ble_eq_true rfl) rfl ?_
                    refine g_aload_n dX12_readLiteral_112 rfl rfl ?_
                    refine g_iconst (v := (1 : Int32)) dX12_readLiteral_113 (by decide) ?_
                    obtain ⟨q1204, e1205, h⟩ := z_bd h
                    refine g_callV (a := 137) (as := [.int (1 : Int32)]) (rest := []) (c := mX12_must) (k1 := 2) dX12_readLiteral_114 rfl rfl rfl sh_137 rfl rfl (Nat.le_of_ble_eq_true rfl) (Nat.le_of_ble_eq_true rfl) (by decide) ?_
                    refine A_X12_must e1205 ?_
                    show z_G none 5 mX12_readLiteral 117 [some (.ref 139), some (.int a1), some (.int (z_tb q1.1)), some (.int (q1201.1 + (0 : Int32)))] [] q1204.2 Q
                    refine g_iload_n dX12_readLiteral_117 rfl rfl ?_
                    cases h
                    exact g_iret dX12_readLiteral_118 rfl rfl hq
                  · replace h := z_ift (z_tbn.mp c1203) h
                    refine g_bipush (v := (6 : Int32)) dX12_readLiteral_104 (by decide) ?_
                    refine g_goto (t := 110) dX12_readLiteral_106 (by decide) ?_
                    refine g_iadd dX12_readLiteral_110 ?_
                    refine g_istore_n (ls' := [some (.ref 139), some (.int a1), some (.int (z_tb q1.1)), some (.int (q1201.1 + (6 : Int32)))]) dX12_readLiteral_111 rfl (Nat.le_of_ble_eq_true rfl) rfl ?_
                    refine g_aload_n dX12_readLiteral_112 rfl rfl ?_
                    refine g_iconst (v := (1 : Int32)) dX12_readLiteral_113 (by decide) ?_
                    obtain ⟨q1206, e1207, h⟩ := z_bd h
                    refine g_callV (a := 137) (as := [.int (1 : Int32)]) (rest := []) (c := mX12_must) (k1 := 2) dX12_readLiteral_114 rfl rfl rfl sh_137 rfl rfl (Nat.le_of_ble_eq_true rfl) (Nat.le_of_ble_eq_true rfl) (by decide) ?_
                    refine A_X12_must e1207 ?_
                    show z_G none 5 mX12_readLiteral 117 [some (.ref 139), some (.int a1), some (.int (z_tb q1.1)), some (.int (q1201.1 + (6 : Int32)))] [] q1206.2 Q
                    refine g_iload_n dX12_readLiteral_117 rfl rfl ?_
                    cases h
                    exact g_iret dX12_readLiteral_118 rfl rfl hq
                · replace h := z_iff c1200 h
                  refine g_iconst (v := (0 : Int32)) dX12_readLiteral_92 (by decide) ?_
                  refine g_goto (t := 111) dX12_readLiteral_93 (by decide) ?_
                  refine g_istore_n (ls' := [some (.ref 139), some (.int a1), some (.int (z_tb q1.1)), some (.int (0 : Int32))]) dX12_readLiteral_111 rfl (Nat.le_of_ble_eq_true rfl) rfl ?_
                  refine g_aload_n dX12_readLiteral_112 rfl rfl ?_
                  refine g_iconst (v := (1 : Int32)) dX12_readLiteral_113 (by decide) ?_
                  obtain ⟨q1208, e1209, h⟩ := z_bd h
                  refine g_callV (a := 137) (as := [.int (1 : Int32)]) (rest := []) (c := mX12_must) (k1 := 2) dX12_readLiteral_114 rfl rfl rfl sh_137 rfl rfl (Nat.le_of_ble_eq_true rfl) (Nat.le_of_ble_eq_true rfl) (by decide) ?_
                  refine A_X12_must e1209 ?_
                  show z_G none 5 mX12_readLiteral 117 [some (.ref 139), some (.int a1), some (.int (z_tb q1.1)), some (.int (0 : Int32))] [] q1208.2 Q
                  refine g_iload_n dX12_readLiteral_117 rfl rfl ?_
                  cases h
                  exact g_iret dX12_readLiteral_118 rfl rfl hq
              · replace h := z_iff c1199 h
                refine g_aload_n dX12_readLiteral_76 rfl rfl ?_
                refine g_iconst (v := (5 : Int32)) dX12_readLiteral_77 (by decide) ?_
                refine g_aload_n dX12_readLiteral_78 rfl rfl ?_
                refine g_get (a := 137) (v := .int (q1196.2.1 137 15)) dX12_readLiteral_79 f_12_106 sh_137 rfl rfl ?_
                obtain ⟨q1210, e1211, h⟩ := z_bd h
                refine g_callV (a := 137) (as := [.int (5 : Int32), .int (q1196.2.1 137 15)]) (rest := []) (c := mX12_fail) (k1 := 0) dX12_readLiteral_82 rfl rfl rfl sh_137 rfl rfl (Nat.le_of_ble_eq_true rfl) (Nat.le_of_ble_eq_true rfl) (by decide) ?_
                refine A_X12_fail e1211 ?_
                show z_G none 5 mX12_readLiteral 85 [some (.ref 139), some (.int a1), some (.int (z_tb q1.1)), none] [] q1210.2 Q
                refine g_aload_n dX12_readLiteral_85 rfl rfl ?_
                refine g_get (a := 137) (v := .int (q1210.2.1 137 12)) dX12_readLiteral_86 f_12_212 sh_137 rfl rfl ?_
                refine g_if_le (t := 96) dX12_readLiteral_89 (by decide) (fun c1212 => ?_) (fun c1212 => ?_)
                · replace h := z_ift c1212 h
                  refine g_aload_n dX12_readLiteral_96 rfl rfl ?_
                  obtain ⟨q1213, e1214, h⟩ := z_bd h
                  refine g_callV (a := 137) (as := []) (rest := []) (c := mX12_named) (k1 := 0) dX12_readLiteral_97 rfl rfl rfl sh_137 rfl rfl (Nat.le_of_ble_eq_true rfl) (Nat.le_of_ble_eq_true rfl) (by decide) ?_
                  refine A_X12_named e1214 ?_
                  show z_G none 5 mX12_readLiteral 100 [some (.ref 139), some (.int a1), some (.int (z_tb q1.1)), none] [.int q1213.1] q1213.2 Q
                  refine g_iload_n dX12_readLiteral_100 rfl rfl ?_
                  refine g_if_eq (t := 109) dX12_readLiteral_101 (by decide) (fun c1215 => ?_) (fun c1215 => ?_)
                  · replace h := z_iff (z_tb0.mp c1215) h
                    refine g_iconst (v := (0 : Int32)) dX12_readLiteral_109 (by decide) ?_
                    refine g_iadd dX12_readLiteral_110 ?_
                    refine g_istore_n (ls' := [some (.ref 139), some (.int a1), some (.int (z_tb q1.1)), some (.int (q1213.1 + (0 : Int32)))]) dX12_readLiteral_111 rfl (Nat.le_of_ble_eq_true rfl) rfl ?_
                    refine g_aload_n dX12_readLiteral_112 rfl rfl ?_
                    refine g_iconst (v := (1 : Int32)) dX12_readLiteral_113 (by decide) ?_
                    obtain ⟨q1216, e1217, h⟩ := z_bd h
                    refine g_callV (a := 137) (as := [.int (1 : Int32)]) (rest := []) (c := mX12_must) (k1 := 2) dX12_readLiteral_114 rfl rfl rfl sh_137 rfl rfl (Nat.le_of_ble_eq_true rfl) (Nat.le_of_ble_eq_true rfl) (by decide) ?_
                    refine A_X12_must e1217 ?_
                    show z_G none 5 mX12_readLiteral 117 [some (.ref 139), some (.int a1), some (.int (z_tb q1.1)), some (.int (q1213.1 + (0 : Int32)))] [] q1216.2 Q
                    refine g_iload_n dX12_readLiteral_117 rfl rfl ?_
                    cases h
                    exact g_iret dX12_readLiteral_118 rfl rfl hq
                  · replace h := z_ift (z_tbn.mp c1215) h
                    refine g_bipush (v := (6 : Int32)) dX12_readLiteral_104 (by decide) ?_
                    refine g_goto (t := 110) dX12_readLiteral_106 (by decide) ?_
                    refine g_iadd dX12_readLiteral_110 ?_
                    refine g_istore_n (ls' := [some (.ref 139), some (.int a1), some (.int (z_tb q1.1)), some (.int (q1213.1 + (6 : Int32)))]) dX12_readLiteral_111 rfl (Nat.le_of_ble_eq_true rfl) rfl ?_
                    refine g_aload_n dX12_readLiteral_112 rfl rfl ?_
                    refine g_iconst (v := (1 : Int32)) dX12_readLiteral_113 (by decide) ?_
                    obtain ⟨q1218, e1219, h⟩ := z_bd h
                    refine g_callV (a := 137) (as := [.int (1 : Int32)]) (rest := []) (c := mX12_must) (k1 := 2) dX12_readLiteral_114 rfl rfl rfl sh_137 rfl rfl (Nat.le_of_ble_eq_true rfl) (Nat.le_of_ble_eq_true rfl) (by decide) ?_
                    refine A_X12_must e1219 ?_
                    show z_G none 5 mX12_readLiteral 117 [some (.ref 139), some (.int a1), some (.int (z_tb q1.1)), some (.int (q1213.1 + (6 : Int32)))] [] q1218.2 Q
                    refine g_iload_n dX12_readLiteral_117 rfl rfl ?_
                    cases h
                    exact g_iret dX12_readLiteral_118 rfl rfl hq
                · replace h := z_iff c1212 h
                  refine g_iconst (v := (0 : Int32)) dX12_readLiteral_92 (by decide) ?_
                  refine g_goto (t := 111) dX12_readLiteral_93 (by decide) ?_
                  refine g_istore_n (ls' := [some (.ref 139), some (.int a1), some (.int (z_tb q1.1)), some (.int (0 : Int32))]) dX12_readLiteral_111 rfl (Nat.le_of_ble_eq_true rfl) rfl ?_
                  refine g_aload_n dX12_readLiteral_112 rfl rfl ?_
                  refine g_iconst (v := (1 : Int32)) dX12_readLiteral_113 (by decide) ?_
                  obtain ⟨q1220, e1221, h⟩ := z_bd h
                  refine g_callV (a := 137) (as := [.int (1 : Int32)]) (rest := []) (c := mX12_must) (k1 := 2) dX12_readLiteral_114 rfl rfl rfl sh_137 rfl rfl (Nat.le_of_ble_eq_true rfl) (Nat.le_of_ble_eq_true rfl) (by decide) ?_
                  refine A_X12_must e1221 ?_
                  show z_G none 5 mX12_readLiteral 117 [some (.ref 139), some (.int a1), some (.int (z_tb q1.1)), some (.int (0 : Int32))] [] q1220.2 Q
                  refine g_iload_n dX12_readLiteral_117 rfl rfl ?_
                  cases h
                  exact g_iret dX12_readLiteral_118 rfl rfl hq
            · replace h := z_iff c1198 h
              refine g_aload_n dX12_readLiteral_63 rfl rfl ?_
              refine g_iconst (v := (3 : Int32)) dX12_readLiteral_64 (by decide) ?_
              refine g_aload_n dX12_readLiteral_65 rfl rfl ?_
              refine g_get (a := 137) (v := .int (q1196.2.1 137 15)) dX12_readLiteral_66 f_12_106 sh_137 rfl rfl ?_
              obtain ⟨q1222, e1223, h⟩ := z_bd h
              refine g_callV (a := 137) (as := [.int (3 : Int32), .int (q1196.2.1 137 15)]) (rest := []) (c := mX12_fail) (k1 := 0) dX12_readLiteral_69 rfl rfl rfl sh_137 rfl rfl (Nat.le_of_ble_eq_true rfl) (Nat.le_of_ble_eq_true rfl) (by decide) ?_
              refine A_X12_fail e1223 ?_
              show z_G none 5 mX12_readLiteral 72 [some (.ref 139), some (.int a1), some (.int (z_tb q1.1)), none] [] q1222.2 Q
              refine g_iload_n dX12_readLiteral_72 rfl rfl ?_
              refine g_if_eq (t := 85) dX12_readLiteral_73 (by decide) (fun c1224 => ?_) (fun c1224 => ?_)
              · replace h := z_ift c1224 h
                refine g_aload_n dX12_readLiteral_85 rfl rfl ?_
                refine g_get (a := 137) (v := .int (q1222.2.1 137 12)) dX12_readLiteral_86 f_12_212 sh_137 rfl rfl ?_
                refine g_if_le (t := 96) dX12_readLiteral_89 (by decide) (fun c1225 => ?_) (fun c1225 => ?_)
                · replace h := z_ift c1225 h
                  refine g_aload_n dX12_readLiteral_96 rfl rfl ?_
                  obtain ⟨q1226, e1227, h⟩ := z_bd h
                  refine g_callV (a := 137) (as := []) (rest := []) (c := mX12_named) (k1 := 0) dX12_readLiteral_97 rfl rfl rfl sh_137 rfl rfl (Nat.le_of_ble_eq_true rfl) (Nat.le_of_ble_eq_true rfl) (by decide) ?_
                  refine A_X12_named e1227 ?_
                  show z_G none 5 mX12_readLiteral 100 [some (.ref 139), some (.int a1), some (.int (z_tb q1.1)), none] [.int q1226.1] q1226.2 Q
                  refine g_iload_n dX12_readLiteral_100 rfl rfl ?_
                  refine g_if_eq (t := 109) dX12_readLiteral_101 (by decide) (fun c1228 => ?_) (fun c1228 => ?_)
                  · replace h := z_iff (z_tb0.mp c1228) h
                    refine g_iconst (v := (0 : Int32)) dX12_readLiteral_109 (by decide) ?_
                    refine g_iadd dX12_readLiteral_110 ?_
                    refine g_istore_n (ls' := [some (.ref 139), some (.int a1), some (.int (z_tb q1.1)), some (.int (q1226.1 + (0 : Int32)))]) dX12_readLiteral_111 rfl (Nat.le_of_ble_eq_true rfl) rfl ?_
                    refine g_aload_n dX12_readLiteral_112 rfl rfl ?_
                    refine g_iconst (v := (1 : Int32)) dX12_readLiteral_113 (by decide) ?_
                    obtain ⟨q1229, e1230, h⟩ := z_bd h
                    refine g_callV (a := 137) (as := [.int (1 : Int32)]) (rest := []) (c := mX12_must) (k1 := 2) dX12_readLiteral_114 rfl rfl rfl sh_137 rfl rfl (Nat.le_of_ble_eq_true rfl) (Nat.le_of_ble_eq_true rfl) (by decide) ?_
                    refine A_X12_must e1230 ?_
                    show z_G none 5 mX12_readLiteral 117 [some (.ref 139), some (.int a1), some (.int (z_tb q1.1)), some (.int (q1226.1 + (0 : Int32)))] [] q1229.2 Q
                    refine g_iload_n dX12_readLiteral_117 rfl rfl ?_
                    cases h
                    exact g_iret dX12_readLiteral_118 rfl rfl hq
                  · replace h := z_ift (z_tbn.mp c1228) h
                    refine g_bipush (v := (6 : Int32)) dX12_readLiteral_104 (by decide) ?_
                    refine g_goto (t := 110) dX12_readLiteral_106 (by decide) ?_
                    refine g_iadd dX12_readLiteral_110 ?_
                    refine g_istore_n (ls' := [some (.ref 139), some (.int a1), some (.int (z_tb q1.1)), some (.int (q1226.1 + (6 : Int32)))]) dX12_readLiteral_111 rfl (Nat.le_of_ble_eq_true rfl) rfl ?_
                    refine g_aload_n dX12_readLiteral_112 rfl rfl ?_
                    refine g_iconst (v := (1 : Int32)) dX12_readLiteral_113 (by decide) ?_
                    obtain ⟨q1231, e1232, h⟩ := z_bd h
                    refine g_callV (a := 137) (as := [.int (1 : Int32)]) (rest := []) (c := mX12_must) (k1 := 2) dX12_readLiteral_114 rfl rfl rfl sh_137 rfl rfl (Nat.le_of_ble_eq_true rfl) (Nat.le_of_ble_eq_true rfl) (by decide) ?_
                    refine A_X12_must e1232 ?_
                    show z_G none 5 mX12_readLiteral 117 [some (.ref 139), some (.int a1), some (.int (z_tb q1.1)), some (.int (q1226.1 + (6 : Int32)))] [] q1231.2 Q
                    refine g_iload_n dX12_readLiteral_117 rfl rfl ?_
                    cases h
                    exact g_iret dX12_readLiteral_118 rfl rfl hq
                · replace h := z_iff c1225 h
                  refine g_iconst (v := (0 : Int32)) dX12_readLiteral_92 (by decide) ?_
                  refine g_goto (t := 111) dX12_readLiteral_93 (by decide) ?_
                  refine g_istore_n (ls' := [some (.ref 139), some (.int a1), some (.int (z_tb q1.1)), some (.int (0 : Int32))]) dX12_readLiteral_111 rfl (Nat.le_of_ble_eq_true rfl) rfl ?_
                  refine g_aload_n dX12_readLiteral_112 rfl rfl ?_
                  refine g_iconst (v := (1 : Int32)) dX12_readLiteral_113 (by decide) ?_
                  obtain ⟨q1233, e1234, h⟩ := z_bd h
                  refine g_callV (a := 137) (as := [.int (1 : Int32)]) (rest := []) (c := mX12_must) (k1 := 2) dX12_readLiteral_114 rfl rfl rfl sh_137 rfl rfl (Nat.le_of_ble_eq_true rfl) (Nat.le_of_ble_eq_true rfl) (by decide) ?_
                  refine A_X12_must e1234 ?_
                  show z_G none 5 mX12_readLiteral 117 [some (.ref 139), some (.int a1), some (.int (z_tb q1.1)), some (.int (0 : Int32))] [] q1233.2 Q
                  refine g_iload_n dX12_readLiteral_117 rfl rfl ?_
                  cases h
                  exact g_iret dX12_readLiteral_118 rfl rfl hq
              · replace h := z_iff c1224 h
                refine g_aload_n dX12_readLiteral_76 rfl rfl ?_
                refine g_iconst (v := (5 : Int32)) dX12_readLiteral_77 (by decide) ?_
                refine g_aload_n dX12_readLiteral_78 rfl rfl ?_
                refine g_get (a := 137) (v := .int (q1222.2.1 137 15)) dX12_readLiteral_79 f_12_106 sh_137 rfl rfl ?_
                obtain ⟨q1235, e1236, h⟩ := z_bd h
                refine g_callV (a := 137) (as := [.int (5 : Int32), .int (q1222.2.1 137 15)]) (rest := []) (c := mX12_fail) (k1 := 0) dX12_readLiteral_82 rfl rfl rfl sh_137 rfl rfl (Nat.le_of_ble_eq_true rfl) (Nat.le_of_ble_eq_true rfl) (by decide) ?_
                refine A_X12_fail e1236 ?_
                show z_G none 5 mX12_readLiteral 85 [some (.ref 139), some (.int a1), some (.int (z_tb q1.1)), none] [] q1235.2 Q
                refine g_aload_n dX12_readLiteral_85 rfl rfl ?_
                refine g_get (a := 137) (v := .int (q1235.2.1 137 12)) dX12_readLiteral_86 f_12_212 sh_137 rfl rfl ?_
                refine g_if_le (t := 96) dX12_readLiteral_89 (by decide) (fun c1237 => ?_) (fun c1237 => ?_)
                · replace h := z_ift c1237 h
                  refine g_aload_n dX12_readLiteral_96 rfl rfl ?_
                  obtain ⟨q1238, e1239, h⟩ := z_bd h
                  refine g_callV (a := 137) (as := []) (rest := []) (c := mX12_named) (k1 := 0) dX12_readLiteral_97 rfl rfl rfl sh_137 rfl rfl (Nat.le_of_ble_eq_true rfl) (Nat.le_of_ble_eq_true rfl) (by decide) ?_
                  refine A_X12_named e1239 ?_
                  show z_G none 5 mX12_readLiteral 100 [some (.ref 139), some (.int a1), some (.int (z_tb q1.1)), none] [.int q1238.1] q1238.2 Q
                  refine g_iload_n dX12_readLiteral_100 rfl rfl ?_
                  refine g_if_eq (t := 109) dX12_readLiteral_101 (by decide) (fun c1240 => ?_) (fun c1240 => ?_)
                  · replace h := z_iff (z_tb0.mp c1240) h
                    refine g_iconst (v := (0 : Int32)) dX12_readLiteral_109 (by decide) ?_
                    refine g_iadd dX12_readLiteral_110 ?_
                    refine g_istore_n (ls' := [some (.ref 139), some (.int a1), some (.int (z_tb q1.1)), some (.int (q1238.1 + (0 : Int32)))]) dX12_readLiteral_111 rfl (Nat.le_of_ble_eq_true rfl) rfl ?_
                    refine g_aload_n dX12_readLiteral_112 rfl rfl ?_
                    refine g_iconst (v := (1 : Int32)) dX12_readLiteral_113 (by decide) ?_
                    obtain ⟨q1241, e1242, h⟩ := z_bd h
                    refine g_callV (a := 137) (as := [.int (1 : Int32)]) (rest := []) (c := mX12_must) (k1 := 2) dX12_readLiteral_114 rfl rfl rfl sh_137 rfl rfl (Nat.le_of_ble_eq_true rfl) (Nat.le_of_ble_eq_true rfl) (by decide) ?_
                    refine A_X12_must e1242 ?_
                    show z_G none 5 mX12_readLiteral 117 [some (.ref 139), some (.int a1), some (.int (z_tb q1.1)), some (.int (q1238.1 + (0 : Int32)))] [] q1241.2 Q
                    refine g_iload_n dX12_readLiteral_117 rfl rfl ?_
                    cases h
                    exact g_iret dX12_readLiteral_118 rfl rfl hq
                  · replace h := z_ift (z_tbn.mp c1240) h
                    refine g_bipush (v := (6 : Int32)) dX12_readLiteral_104 (by decide) ?_
                    refine g_goto (t := 110) dX12_readLiteral_106 (by decide) ?_
                    refine g_iadd dX12_readLiteral_110 ?_
                    refine g_istore_n (ls' := [some (.ref 139), some (.int a1), some (.int (z_tb q1.1)), some (.int (q1238.1 + (6 : Int32)))]) dX12_readLiteral_111 rfl (Nat.le_of_ble_eq_true rfl) rfl ?_
                    refine g_aload_n dX12_readLiteral_112 rfl rfl ?_
                    refine g_iconst (v := (1 : Int32)) dX12_readLiteral_113 (by decide) ?_
                    obtain ⟨q1243, e1244, h⟩ := z_bd h
                    refine g_callV (a := 137) (as := [.int (1 : Int32)]) (rest := []) (c := mX12_must) (k1 := 2) dX12_readLiteral_114 rfl rfl rfl sh_137 rfl rfl (Nat.le_of_ble_eq_true rfl) (Nat.le_of_ble_eq_true rfl) (by decide) ?_
                    refine A_X12_must e1244 ?_
                    show z_G none 5 mX12_readLiteral 117 [some (.ref 139), some (.int a1), some (.int (z_tb q1.1)), some (.int (q1238.1 + (6 : Int32)))] [] q1243.2 Q
                    refine g_iload_n dX12_readLiteral_117 rfl rfl ?_
                    cases h
                    exact g_iret dX12_readLiteral_118 rfl rfl hq
                · replace h := z_iff c1237 h
                  refine g_iconst (v := (0 : Int32)) dX12_readLiteral_92 (by decide) ?_
                  refine g_goto (t := 111) dX12_readLiteral_93 (by decide) ?_
                  refine g_istore_n (ls' := [some (.ref 139), some (.int a1), some (.int (z_tb q1.1)), some (.int (0 : Int32))]) dX12_readLiteral_111 rfl (Nat.le_of_ble_eq_true rfl) rfl ?_
                  refine g_aload_n dX12_readLiteral_112 rfl rfl ?_
                  refine g_iconst (v := (1 : Int32)) dX12_readLiteral_113 (by decide) ?_
                  obtain ⟨q1245, e1246, h⟩ := z_bd h
                  refine g_callV (a := 137) (as := [.int (1 : Int32)]) (rest := []) (c := mX12_must) (k1 := 2) dX12_readLiteral_114 rfl rfl rfl sh_137 rfl rfl (Nat.le_of_ble_eq_true rfl) (Nat.le_of_ble_eq_true rfl) (by decide) ?_
                  refine A_X12_must e1246 ?_
                  show z_G none 5 mX12_readLiteral 117 [some (.ref 139), some (.int a1), some (.int (z_tb q1.1)), some (.int (0 : Int32))] [] q1245.2 Q
                  refine g_iload_n dX12_readLiteral_117 rfl rfl ?_
                  cases h
                  exact g_iret dX12_readLiteral_118 rfl rfl hq
        · replace h := z_ift c1171 h
          refine g_aload_n dX12_readLiteral_38 rfl rfl ?_
          obtain ⟨q1247, e1248, h⟩ := z_bd h
          refine g_callV (a := 137) (as := []) (rest := []) (c := mX12_isName) (k1 := 4) dX12_readLiteral_39 rfl rfl rfl sh_137 rfl rfl (Nat.le_of_ble_eq_true rfl) (Nat.le_of_ble_eq_true rfl) (by decide) ?_
          refine A_X12_isName e1248 ?_
          show z_G none 5 mX12_readLiteral 42 [some (.ref 139), some (.int a1), some (.int (z_tb q1.1)), none] [.int (z_tb q1247.1)] q1247.2 Q
          refine g_if_ne (t := 49) dX12_readLiteral_42 (by decide) (fun c1249 => ?_) (fun c1249 => ?_)
          · replace h := z_ift (z_tbn.mp c1249) h
            refine g_aload_n dX12_readLiteral_49 rfl rfl ?_
            refine g_get (a := 137) (v := .int (q1247.2.1 137 12)) dX12_readLiteral_50 f_12_212 sh_137 rfl rfl ?_
            refine g_if_ne (t := 72) dX12_readLiteral_53 (by decide) (fun c1250 => ?_) (fun c1250 => ?_)
            · replace h := z_iff c1250 h
              refine g_iload_n dX12_readLiteral_72 rfl rfl ?_
              refine g_if_eq (t := 85) dX12_readLiteral_73 (by decide) (fun c1251 => ?_) (fun c1251 => ?_)
              · replace h := z_ift c1251 h
                refine g_aload_n dX12_readLiteral_85 rfl rfl ?_
                refine g_get (a := 137) (v := .int (q1247.2.1 137 12)) dX12_readLiteral_86 f_12_212 sh_137 rfl rfl ?_
                refine g_if_le (t := 96) dX12_readLiteral_89 (by decide) (fun c1252 => ?_) (fun c1252 => ?_)
                · replace h := z_ift c1252 h
                  refine g_aload_n dX12_readLiteral_96 rfl rfl ?_
                  obtain ⟨q1253, e1254, h⟩ := z_bd h
                  refine g_callV (a := 137) (as := []) (rest := []) (c := mX12_named) (k1 := 0) dX12_readLiteral_97 rfl rfl rfl sh_137 rfl rfl (Nat.le_of_ble_eq_true rfl) (Nat.le_of_ble_eq_true rfl) (by decide) ?_
                  refine A_X12_named e1254 ?_
                  show z_G none 5 mX12_readLiteral 100 [some (.ref 139), some (.int a1), some (.int (z_tb q1.1)), none] [.int q1253.1] q1253.2 Q
                  refine g_iload_n dX12_readLiteral_100 rfl rfl ?_
                  refine g_if_eq (t := 109) dX12_readLiteral_101 (by decide) (fun c1255 => ?_) (fun c1255 => ?_)
                  · replace h := z_iff (z_tb0.mp c1255) h
                    refine g_iconst (v := (0 : Int32)) dX12_readLiteral_109 (by decide) ?_
                    refine g_iadd dX12_readLiteral_110 ?_
                    refine g_istore_n (ls' := [some (.ref 139), some (.int a1), some (.int (z_tb q1.1)), some (.int (q1253.1 + (0 : Int32)))]) dX12_readLiteral_111 rfl (Nat.le_of_ble_eq_true rfl) rfl ?_
                    refine g_aload_n dX12_readLiteral_112 rfl rfl ?_
                    refine g_iconst (v := (1 : Int32)) dX12_readLiteral_113 (by decide) ?_
                    obtain ⟨q1256, e1257, h⟩ := z_bd h
                    refine g_callV (a := 137) (as := [.int (1 : Int32)]) (rest := []) (c := mX12_must) (k1 := 2) dX12_readLiteral_114 rfl rfl rfl sh_137 rfl rfl (Nat.le_of_ble_eq_true rfl) (Nat.le_of_ble_eq_true rfl) (by decide) ?_
                    refine A_X12_must e1257 ?_
                    show z_G none 5 mX12_readLiteral 117 [some (.ref 139), some (.int a1), some (.int (z_tb q1.1)), some (.int (q1253.1 + (0 : Int32)))] [] q1256.2 Q
                    refine g_iload_n dX12_readLiteral_117 rfl rfl ?_
                    cases h
                    exact g_iret dX12_readLiteral_118 rfl rfl hq
                  · replace h := z_ift (z_tbn.mp c1255) h
                    refine g_bipush (v := (6 : Int32)) dX12_readLiteral_104 (by decide) ?_
                    refine g_goto (t := 110) dX12_readLiteral_106 (by decide) ?_
                    refine g_iadd dX12_readLiteral_110 ?_
                    refine g_istore_n (ls' := [some (.ref 139), some (.int a1), some (.int (z_tb q1.1)), some (.int (q1253.1 + (6 : Int32)))]) dX12_readLiteral_111 rfl (Nat.le_of_ble_eq_true rfl) rfl ?_
                    refine g_aload_n dX12_readLiteral_112 rfl rfl ?_
                    refine g_iconst (v := (1 : Int32)) dX12_readLiteral_113 (by decide) ?_
                    obtain ⟨q1258, e1259, h⟩ := z_bd h
                    refine g_callV (a := 137) (as := [.int (1 : Int32)]) (rest := []) (c := mX12_must) (k1 := 2) dX12_readLiteral_114 rfl rfl rfl sh_137 rfl rfl (Nat.le_of_ble_eq_true rfl) (Nat.le_of_ble_eq_true rfl) (by decide) ?_
                    refine A_X12_must e1259 ?_
                    show z_G none 5 mX12_readLiteral 117 [some (.ref 139), some (.int a1), some (.int (z_tb q1.1)), some (.int (q1253.1 + (6 : Int32)))] [] q1258.2 Q
                    refine g_iload_n dX12_readLiteral_117 rfl rfl ?_
                    cases h
                    exact g_iret dX12_readLiteral_118 rfl rfl hq
                · replace h := z_iff c1252 h
                  refine g_iconst (v := (0 : Int32)) dX12_readLiteral_92 (by decide) ?_
                  refine g_goto (t := 111) dX12_readLiteral_93 (by decide) ?_
                  refine g_istore_n (ls' := [some (.ref 139), some (.int a1), some (.int (z_tb q1.1)), some (.int (0 : Int32))]) dX12_readLiteral_111 rfl (Nat.le_of_ble_eq_true rfl) rfl ?_
                  refine g_aload_n dX12_readLiteral_112 rfl rfl ?_
                  refine g_iconst (v := (1 : Int32)) dX12_readLiteral_113 (by decide) ?_
                  obtain ⟨q1260, e1261, h⟩ := z_bd h
                  refine g_callV (a := 137) (as := [.int (1 : Int32)]) (rest := []) (c := mX12_must) (k1 := 2) dX12_readLiteral_114 rfl rfl rfl sh_137 rfl rfl (Nat.le_of_ble_eq_true rfl) (Nat.le_of_ble_eq_true rfl) (by decide) ?_
                  refine A_X12_must e1261 ?_
                  show z_G none 5 mX12_readLiteral 117 [some (.ref 139), some (.int a1), some (.int (z_tb q1.1)), some (.int (0 : Int32))] [] q1260.2 Q
                  refine g_iload_n dX12_readLiteral_117 rfl rfl ?_
                  cases h
                  exact g_iret dX12_readLiteral_118 rfl rfl hq
              · replace h := z_iff c1251 h
                refine g_aload_n dX12_readLiteral_76 rfl rfl ?_
                refine g_iconst (v := (5 : Int32)) dX12_readLiteral_77 (by decide) ?_
                refine g_aload_n dX12_readLiteral_78 rfl rfl ?_
                refine g_get (a := 137) (v := .int (q1247.2.1 137 15)) dX12_readLiteral_79 f_12_106 sh_137 rfl rfl ?_
                obtain ⟨q1262, e1263, h⟩ := z_bd h
                refine g_callV (a := 137) (as := [.int (5 : Int32), .int (q1247.2.1 137 15)]) (rest := []) (c := mX12_fail) (k1 := 0) dX12_readLiteral_82 rfl rfl rfl sh_137 rfl rfl (Nat.le_of_ble_eq_true rfl) (Nat.le_of_ble_eq_true rfl) (by decide) ?_
                refine A_X12_fail e1263 ?_
                show z_G none 5 mX12_readLiteral 85 [some (.ref 139), some (.int a1), some (.int (z_tb q1.1)), none] [] q1262.2 Q
                refine g_aload_n dX12_readLiteral_85 rfl rfl ?_
                refine g_get (a := 137) (v := .int (q1262.2.1 137 12)) dX12_readLiteral_86 f_12_212 sh_137 rfl rfl ?_
                refine g_if_le (t := 96) dX12_readLiteral_89 (by decide) (fun c1264 => ?_) (fun c1264 => ?_)
                · replace h := z_ift c1264 h
                  refine g_aload_n dX12_readLiteral_96 rfl rfl ?_
                  obtain ⟨q1265, e1266, h⟩ := z_bd h
                  refine g_callV (a := 137) (as := []) (rest := []) (c := mX12_named) (k1 := 0) dX12_readLiteral_97 rfl rfl rfl sh_137 rfl rfl (Nat.le_of_ble_eq_true rfl) (Nat.le_of_ble_eq_true rfl) (by decide) ?_
                  refine A_X12_named e1266 ?_
                  show z_G none 5 mX12_readLiteral 100 [some (.ref 139), some (.int a1), some (.int (z_tb q1.1)), none] [.int q1265.1] q1265.2 Q
                  refine g_iload_n dX12_readLiteral_100 rfl rfl ?_
                  refine g_if_eq (t := 109) dX12_readLiteral_101 (by decide) (fun c1267 => ?_) (fun c1267 => ?_)
                  · replace h := z_iff (z_tb0.mp c1267) h
                    refine g_iconst (v := (0 : Int32)) dX12_readLiteral_109 (by decide) ?_
                    refine g_iadd dX12_readLiteral_110 ?_
                    refine g_istore_n (ls' := [some (.ref 139), some (.int a1), some (.int (z_tb q1.1)), some (.int (q1265.1 + (0 : Int32)))]) dX12_readLiteral_111 rfl (Nat.le_of_ble_eq_true rfl) rfl ?_
                    refine g_aload_n dX12_readLiteral_112 rfl rfl ?_
                    refine g_iconst (v := (1 : Int32)) dX12_readLiteral_113 (by decide) ?_
                    obtain ⟨q1268, e1269, h⟩ := z_bd h
                    refine g_callV (a := 137) (as := [.int (1 : Int32)]) (rest := []) (c := mX12_must) (k1 := 2) dX12_readLiteral_114 rfl rfl rfl sh_137 rfl rfl (Nat.le_of_ble_eq_true rfl) (Nat.le_of_ble_eq_true rfl) (by decide) ?_
                    refine A_X12_must e1269 ?_
                    show z_G none 5 mX12_readLiteral 117 [some (.ref 139), some (.int a1), some (.int (z_tb q1.1)), some (.int (q1265.1 + (0 : Int32)))] [] q1268.2 Q
                    refine g_iload_n dX12_readLiteral_117 rfl rfl ?_
                    cases h
                    exact g_iret dX12_readLiteral_118 rfl rfl hq
                  · replace h := z_ift (z_tbn.mp c1267) h
                    refine g_bipush (v := (6 : Int32)) dX12_readLiteral_104 (by decide) ?_
                    refine g_goto (t := 110) dX12_readLiteral_106 (by decide) ?_
                    refine g_iadd dX12_readLiteral_110 ?_
                    refine g_istore_n (ls' := [some (.ref 139), some (.int a1), some (.int (z_tb q1.1)), some (.int (q1265.1 + (6 : Int32)))]) dX12_readLiteral_111 rfl (Nat.le_of_ble_eq_true rfl) rfl ?_
                    refine g_aload_n dX12_readLiteral_112 rfl rfl ?_
                    refine g_iconst (v := (1 : Int32)) dX12_readLiteral_113 (by decide) ?_
                    obtain ⟨q1270, e1271, h⟩ := z_bd h
                    refine g_callV (a := 137) (as := [.int (1 : Int32)]) (rest := []) (c := mX12_must) (k1 := 2) dX12_readLiteral_114 rfl rfl rfl sh_137 rfl rfl (Nat.le_of_ble_eq_true rfl) (Nat.le_of_ble_eq_true rfl) (by decide) ?_
                    refine A_X12_must e1271 ?_
                    show z_G none 5 mX12_readLiteral 117 [some (.ref 139), some (.int a1), some (.int (z_tb q1.1)), some (.int (q1265.1 + (6 : Int32)))] [] q1270.2 Q
                    refine g_iload_n dX12_readLiteral_117 rfl rfl ?_
                    cases h
                    exact g_iret dX12_readLiteral_118 rfl rfl hq
                · replace h := z_iff c1264 h
                  refine g_iconst (v := (0 : Int32)) dX12_readLiteral_92 (by decide) ?_
                  refine g_goto (t := 111) dX12_readLiteral_93 (by decide) ?_
                  refine g_istore_n (ls' := [some (.ref 139), some (.int a1), some (.int (z_tb q1.1)), some (.int (0 : Int32))]) dX12_readLiteral_111 rfl (Nat.le_of_ble_eq_true rfl) rfl ?_
                  refine g_aload_n dX12_readLiteral_112 rfl rfl ?_
                  refine g_iconst (v := (1 : Int32)) dX12_readLiteral_113 (by decide) ?_
                  obtain ⟨q1272, e1273, h⟩ := z_bd h
                  refine g_callV (a := 137) (as := [.int (1 : Int32)]) (rest := []) (c := mX12_must) (k1 := 2) dX12_readLiteral_114 rfl rfl rfl sh_137 rfl rfl (Nat.le_of_ble_eq_true rfl) (Nat.le_of_ble_eq_true rfl) (by decide) ?_
                  refine A_X12_must e1273 ?_
                  show z_G none 5 mX12_readLiteral 117 [some (.ref 139), some (.int a1), some (.int (z_tb q1.1)), some (.int (0 : Int32))] [] q1272.2 Q
                  refine g_iload_n dX12_readLiteral_117 rfl rfl ?_
                  cases h
                  exact g_iret dX12_readLiteral_118 rfl rfl hq
            · replace h := z_ift c1250 h
              refine g_aload_n dX12_readLiteral_56 rfl rfl ?_
              obtain ⟨q1274, e1275, h⟩ := z_bd h
              refine g_callV (a := 137) (as := []) (rest := []) (c := mX12_named) (k1 := 0) dX12_readLiteral_57 rfl rfl rfl sh_137 rfl rfl (Nat.le_of_ble_eq_true rfl) (Nat.le_of_ble_eq_true rfl) (by decide) ?_
              refine A_X12_named e1275 ?_
              show z_G none 5 mX12_readLiteral 60 [some (.ref 139), some (.int a1), some (.int (z_tb q1.1)), none] [.int q1274.1] q1274.2 Q
              refine g_if_ge (t := 72) dX12_readLiteral_60 (by decide) (fun c1276 => ?_) (fun c1276 => ?_)
              · replace h := z_ift c1276 h
                refine g_iload_n dX12_readLiteral_72 rfl rfl ?_
                refine g_if_eq (t := 85) dX12_readLiteral_73 (by decide) (fun c1277 => ?_) (fun c1277 => ?_)
                · replace h := z_ift c1277 h
                  refine g_aload_n dX12_readLiteral_85 rfl rfl ?_
                  refine g_get (a := 137) (v := .int (q1274.2.1 137 12)) dX12_readLiteral_86 f_12_212 sh_137 rfl rfl ?_
                  refine g_if_le (t := 96) dX12_readLiteral_89 (by decide) (fun c1278 => ?_) (fun c1278 => ?_)
                  · replace h := z_ift c1278 h
                    refine g_aload_n dX12_readLiteral_96 rfl rfl ?_
                    obtain ⟨q1279, e1280, h⟩ := z_bd h
                    refine g_callV (a := 137) (as := []) (rest := []) (c := mX12_named) (k1 := 0) dX12_readLiteral_97 rfl rfl rfl sh_137 rfl rfl (Nat.le_of_ble_eq_true rfl) (Nat.le_of_ble_eq_true rfl) (by decide) ?_
                    refine A_X12_named e1280 ?_
                    show z_G none 5 mX12_readLiteral 100 [some (.ref 139), some (.int a1), some (.int (z_tb q1.1)), none] [.int q1279.1] q1279.2 Q
                    refine g_iload_n dX12_readLiteral_100 rfl rfl ?_
                    refine g_if_eq (t := 109) dX12_readLiteral_101 (by decide) (fun c1281 => ?_) (fun c1281 => ?_)
                    · replace h := z_iff (z_tb0.mp c1281) h
                      refine g_iconst (v := (0 : Int32)) dX12_readLiteral_109 (by decide) ?_
                      refine g_iadd dX12_readLiteral_110 ?_
                      refine g_istore_n (ls' := [some (.ref 139), some (.int a1), some (.int (z_tb q1.1)), some (.int (q1279.1 + (0 : Int32)))]) dX12_readLiteral_111 rfl (Nat.le_of_ble_eq_true rfl) rfl ?_
                      refine g_aload_n dX12_readLiteral_112 rfl rfl ?_
                      refine g_iconst (v := (1 : Int32)) dX12_readLiteral_113 (by decide) ?_
                      obtain ⟨q1282, e1283, h⟩ := z_bd h
                      refine g_callV (a := 137) (as := [.int (1 : Int32)]) (rest := []) (c := mX12_must) (k1 := 2) dX12_readLiteral_114 rfl rfl rfl sh_137 rfl rfl (Nat.le_of_ble_eq_true rfl) (Nat.le_of_ble_eq_true rfl) (by decide) ?_
                      refine A_X12_must e1283 ?_
                      show z_G none 5 mX12_readLiteral 117 [some (.ref 139), some (.int a1), some (.int (z_tb q1.1)), some (.int (q1279.1 + (0 : Int32)))] [] q1282.2 Q
                      refine g_iload_n dX12_readLiteral_117 rfl rfl ?_
                      cases h
                      exact g_iret dX12_readLiteral_118 rfl rfl hq
                    · replace h := z_ift (z_tbn.mp c1281) h
                      refine g_bipush (v := (6 : Int32)) dX12_readLiteral_104 (by decide) ?_
                      refine g_goto (t := 110) dX12_readLiteral_106 (by decide) ?_
                      refine g_iadd dX12_readLiteral_110 ?_
                      refine g_istore_n (ls' := [some (.ref 139), some (.int a1), some (.int (z_tb q1.1)), some (.int (q1279.1 + (6 : Int32)))]) dX12_readLiteral_111 rfl (Nat.le_of_ble_eq_true rfl) rfl ?_
                      refine g_aload_n dX12_readLiteral_112 rfl rfl ?_
                      refine g_iconst (v := (1 : Int32)) dX12_readLiteral_113 (by decide) ?_
                      obtain ⟨q1284, e1285, h⟩ := z_bd h
                      refine g_callV (a := 137) (as := [.int (1 : Int32)]) (rest := []) (c := mX12_must) (k1 := 2) dX12_readLiteral_114 rfl rfl rfl sh_137 rfl rfl (Nat.le_of_ble_eq_true rfl) (Nat.le_of_ble_eq_true rfl) (by decide) ?_
                      refine A_X12_must e1285 ?_
                      show z_G none 5 mX12_readLiteral 117 [some (.ref 139), some (.int a1), some (.int (z_tb q1.1)), some (.int (q1279.1 + (6 : Int32)))] [] q1284.2 Q
                      refine g_iload_n dX12_readLiteral_117 rfl rfl ?_
                      cases h
                      exact g_iret dX12_readLiteral_118 rfl rfl hq
                  · replace h := z_iff c1278 h
                    refine g_iconst (v := (0 : Int32)) dX12_readLiteral_92 (by decide) ?_
                    refine g_goto (t := 111) dX12_readLiteral_93 (by decide) ?_
                    refine g_istore_n (ls' := [some (.ref 139), some (.int a1), some (.int (z_tb q1.1)), some (.int (0 : Int32))]) dX12_readLiteral_111 rfl (Nat.le_of_ble_eq_true rfl) rfl ?_
                    refine g_aload_n dX12_readLiteral_112 rfl rfl ?_
                    refine g_iconst (v := (1 : Int32)) dX12_readLiteral_113 (by decide) ?_
                    obtain ⟨q1286, e1287, h⟩ := z_bd h
                    refine g_callV (a := 137) (as := [.int (1 : Int32)]) (rest := []) (c := mX12_must) (k1 := 2) dX12_readLiteral_114 rfl rfl rfl sh_137 rfl rfl (Nat.le_of_ble_eq_true rfl) (Nat.le_of_ble_eq_true rfl) (by decide) ?_
                    refine A_X12_must e1287 ?_
                    show z_G none 5 mX12_readLiteral 117 [some (.ref 139), some (.int a1), some (.int (z_tb q1.1)), some (.int (0 : Int32))] [] q1286.2 Q
                    refine g_iload_n dX12_readLiteral_117 rfl rfl ?_
                    cases h
                    exact g_iret dX12_readLiteral_118 rfl rfl hq
                · replace h := z_iff c1277 h
                  refine g_aload_n dX12_readLiteral_76 rfl rfl ?_
                  refine g_iconst (v := (5 : Int32)) dX12_readLiteral_77 (by decide) ?_
                  refine g_aload_n dX12_readLiteral_78 rfl rfl ?_
                  refine g_get (a := 137) (v := .int (q1274.2.1 137 15)) dX12_readLiteral_79 f_12_106 sh_137 rfl rfl ?_
                  obtain ⟨q1288, e1289, h⟩ := z_bd h
                  refine g_callV (a := 137) (as := [.int (5 : Int32), .int (q1274.2.1 137 15)]) (rest := []) (c := mX12_fail) (k1 := 0) dX12_readLiteral_82 rfl rfl rfl sh_137 rfl rfl (Nat.le_of_ble_eq_true rfl) (Nat.le_of_ble_eq_true rfl) (by decide) ?_
                  refine A_X12_fail e1289 ?_
                  show z_G none 5 mX12_readLiteral 85 [some (.ref 139), some (.int a1), some (.int (z_tb q1.1)), none] [] q1288.2 Q
                  refine g_aload_n dX12_readLiteral_85 rfl rfl ?_
                  refine g_get (a := 137) (v := .int (q1288.2.1 137 12)) dX12_readLiteral_86 f_12_212 sh_137 rfl rfl ?_
                  refine g_if_le (t := 96) dX12_readLiteral_89 (by decide) (fun c1290 => ?_) (fun c1290 => ?_)
                  · replace h := z_ift c1290 h
                    refine g_aload_n dX12_readLiteral_96 rfl rfl ?_
                    obtain ⟨q1291, e1292, h⟩ := z_bd h
                    refine g_callV (a := 137) (as := []) (rest := []) (c := mX12_named) (k1 := 0) dX12_readLiteral_97 rfl rfl rfl sh_137 rfl rfl (Nat.le_of_ble_eq_true rfl) (Nat.le_of_ble_eq_true rfl) (by decide) ?_
                    refine A_X12_named e1292 ?_
                    show z_G none 5 mX12_readLiteral 100 [some (.ref 139), some (.int a1), some (.int (z_tb q1.1)), none] [.int q1291.1] q1291.2 Q
                    refine g_iload_n dX12_readLiteral_100 rfl rfl ?_
                    refine g_if_eq (t := 109) dX12_readLiteral_101 (by decide) (fun c1293 => ?_) (fun c1293 => ?_)
                    · replace h := z_iff (z_tb0.mp c1293) h
                      refine g_iconst (v := (0 : Int32)) dX12_readLiteral_109 (by decide) ?_
                      refine g_iadd dX12_readLiteral_110 ?_
                      refine g_istore_n (ls' := [some (.ref 139), some (.int a1), some (.int (z_tb q1.1)), some (.int (q1291.1 + (0 : Int32)))]) dX12_readLiteral_111 rfl (Nat.le_of_ble_eq_true rfl) rfl ?_
                      refine g_aload_n dX12_readLiteral_112 rfl rfl ?_
                      refine g_iconst (v := (1 : Int32)) dX12_readLiteral_113 (by decide) ?_
                      obtain ⟨q1294, e1295, h⟩ := z_bd h
                      refine g_callV (a := 137) (as := [.int (1 : Int32)]) (rest := []) (c := mX12_must) (k1 := 2) dX12_readLiteral_114 rfl rfl rfl sh_137 rfl rfl (Nat.le_of_ble_eq_true rfl) (Nat.le_of_ble_eq_true rfl) (by decide) ?_
                      refine A_X12_must e1295 ?_
                      show z_G none 5 mX12_readLiteral 117 [some (.ref 139), some (.int a1), some (.int (z_tb q1.1)), some (.int (q1291.1 + (0 : Int32)))] [] q1294.2 Q
                      refine g_iload_n dX12_readLiteral_117 rfl rfl ?_
                      cases h
                      exact g_iret dX12_readLiteral_118 rfl rfl hq
                    · replace h := z_ift (z_tbn.mp c1293) h
                      refine g_bipush (v := (6 : Int32)) dX12_readLiteral_104 (by decide) ?_
                      refine g_goto (t := 110) dX12_readLiteral_106 (by decide) ?_
                      refine g_iadd dX12_readLiteral_110 ?_
                      refine g_istore_n (ls' := [some (.ref 139), some (.int a1), some (.int (z_tb q1.1)), some (.int (q1291.1 + (6 : Int32)))]) dX12_readLiteral_111 rfl (Nat.le_of_ble_eq_true rfl) rfl ?_
                      refine g_aload_n dX12_readLiteral_112 rfl rfl ?_
                      refine g_iconst (v := (1 : Int32)) dX12_readLiteral_113 (by decide) ?_
                      obtain ⟨q1296, e1297, h⟩ := z_bd h
                      refine g_callV (a := 137) (as := [.int (1 : Int32)]) (rest := []) (c := mX12_must) (k1 := 2) dX12_readLiteral_114 rfl rfl rfl sh_137 rfl rfl (Nat.le_of_ble_eq_true rfl) (Nat.le_of_ble_eq_true rfl) (by decide) ?_
                      refine A_X12_must e1297 ?_
                      show z_G none 5 mX12_readLiteral 117 [some (.ref 139), some (.int a1), some (.int (z_tb q1.1)), some (.int (q1291.1 + (6 : Int32)))] [] q1296.2 Q
                      refine g_iload_n dX12_readLiteral_117 rfl rfl ?_
                      cases h
                      exact g_iret dX12_readLiteral_118 rfl rfl hq
                  · replace h := z_iff c1290 h
                    refine g_iconst (v := (0 : Int32)) dX12_readLiteral_92 (by decide) ?_
                    refine g_goto (t := 111) dX12_readLiteral_93 (by decide) ?_
                    refine g_istore_n (ls' := [some (.ref 139), some (.int a1), some (.int (z_tb q1.1)), some (.int (0 : Int32))]) dX12_readLiteral_111 rfl (Nat.le_of_ble_eq_true rfl) rfl ?_
                    refine g_aload_n dX12_readLiteral_112 rfl rfl ?_
                    refine g_iconst (v := (1 : Int32)) dX12_readLiteral_113 (by decide) ?_
                    obtain ⟨q1298, e1299, h⟩ := z_bd h
                    refine g_callV (a := 137) (as := [.int (1 : Int32)]) (rest := []) (c := mX12_must) (k1 := 2) dX12_readLiteral_114 rfl rfl rfl sh_137 rfl rfl (Nat.le_of_ble_eq_true rfl) (Nat.le_of_ble_eq_true rfl) (by decide) ?_
                    refine A_X12_must e1299 ?_
                    show z_G none 5 mX12_readLiteral 117 [some (.ref 139), some (.int a1), some (.int (z_tb q1.1)), some (.int (0 : Int32))] [] q1298.2 Q
                    refine g_iload_n dX12_readLiteral_117 rfl rfl ?_
                    cases h
                    exact g_iret dX12_readLiteral_118 rfl rfl hq
              · replace h := z_iff c1276 h
                refine g_aload_n dX12_readLiteral_63 rfl rfl ?_
                refine g_iconst (v := (3 : Int32)) dX12_readLiteral_64 (by decide) ?_
                refine g_aload_n dX12_readLiteral_65 rfl rfl ?_
                refine g_get (a := 137) (v := .int (q1274.2.1 137 15)) dX12_readLiteral_66 f_12_106 sh_137 rfl rfl ?_
                obtain ⟨q1300, e1301, h⟩ := z_bd h
                refine g_callV (a := 137) (as := [.int (3 : Int32), .int (q1274.2.1 137 15)]) (rest := []) (c := mX12_fail) (k1 := 0) dX12_readLiteral_69 rfl rfl rfl sh_137 rfl rfl (Nat.le_of_ble_eq_true rfl) (Nat.le_of_ble_eq_true rfl) (by decide) ?_
                refine A_X12_fail e1301 ?_
                show z_G none 5 mX12_readLiteral 72 [some (.ref 139), some (.int a1), some (.int (z_tb q1.1)), none] [] q1300.2 Q
                refine g_iload_n dX12_readLiteral_72 rfl rfl ?_
                refine g_if_eq (t := 85) dX12_readLiteral_73 (by decide) (fun c1302 => ?_) (fun c1302 => ?_)
                · replace h := z_ift c1302 h
                  refine g_aload_n dX12_readLiteral_85 rfl rfl ?_
                  refine g_get (a := 137) (v := .int (q1300.2.1 137 12)) dX12_readLiteral_86 f_12_212 sh_137 rfl rfl ?_
                  refine g_if_le (t := 96) dX12_readLiteral_89 (by decide) (fun c1303 => ?_) (fun c1303 => ?_)
                  · replace h := z_ift c1303 h
                    refine g_aload_n dX12_readLiteral_96 rfl rfl ?_
                    obtain ⟨q1304, e1305, h⟩ := z_bd h
                    refine g_callV (a := 137) (as := []) (rest := []) (c := mX12_named) (k1 := 0) dX12_readLiteral_97 rfl rfl rfl sh_137 rfl rfl (Nat.le_of_ble_eq_true rfl) (Nat.le_of_ble_eq_true rfl) (by decide) ?_
                    refine A_X12_named e1305 ?_
                    show z_G none 5 mX12_readLiteral 100 [some (.ref 139), some (.int a1), some (.int (z_tb q1.1)), none] [.int q1304.1] q1304.2 Q
                    refine g_iload_n dX12_readLiteral_100 rfl rfl ?_
                    refine g_if_eq (t := 109) dX12_readLiteral_101 (by decide) (fun c1306 => ?_) (fun c1306 => ?_)
                    · replace h := z_iff (z_tb0.mp c1306) h
                      refine g_iconst (v := (0 : Int32)) dX12_readLiteral_109 (by decide) ?_
                      refine g_iadd dX12_readLiteral_110 ?_
                      refine g_istore_n (ls' := [some (.ref 139), some (.int a1), some (.int (z_tb q1.1)), some (.int (q1304.1 + (0 : Int32)))]) dX12_readLiteral_111 rfl (Nat.le_of_ble_eq_true rfl) rfl ?_
                      refine g_aload_n dX12_readLiteral_112 rfl rfl ?_
                      refine g_iconst (v := (1 : Int32)) dX12_readLiteral_113 (by decide) ?_
                      obtain ⟨q1307, e1308, h⟩ := z_bd h
                      refine g_callV (a := 137) (as := [.int (1 : Int32)]) (rest := []) (c := mX12_must) (k1 := 2) dX12_readLiteral_114 rfl rfl rfl sh_137 rfl rfl (Nat.le_of_ble_eq_true rfl) (Nat.le_of_ble_eq_true rfl) (by decide) ?_
                      refine A_X12_must e1308 ?_
                      show z_G none 5 mX12_readLiteral 117 [some (.ref 139), some (.int a1), some (.int (z_tb q1.1)), some (.int (q1304.1 + (0 : Int32)))] [] q1307.2 Q
                      refine g_iload_n dX12_readLiteral_117 rfl rfl ?_
                      cases h
                      exact g_iret dX12_readLiteral_118 rfl rfl hq
                    · replace h := z_ift (z_tbn.mp c1306) h
                      refine g_bipush (v := (6 : Int32)) dX12_readLiteral_104 (by decide) ?_
                      refine g_goto (t := 110) dX12_readLiteral_106 (by decide) ?_
                      refine g_iadd dX12_readLiteral_110 ?_
                      refine g_istore_n (ls' := [some (.ref 139), some (.int a1), some (.int (z_tb q1.1)), some (.int (q1304.1 + (6 : Int32)))]) dX12_readLiteral_111 rfl (Nat.le_of_ble_eq_true rfl) rfl ?_
                      refine g_aload_n dX12_readLiteral_112 rfl rfl ?_
                      refine g_iconst (v := (1 : Int32)) dX12_readLiteral_113 (by decide) ?_
                      obtain ⟨q1309, e1310, h⟩ := z_bd h
                      refine g_callV (a := 137) (as := [.int (1 : Int32)]) (rest := []) (c := mX12_must) (k1 := 2) dX12_readLiteral_114 rfl rfl rfl sh_137 rfl rfl (Nat.le_of_ble_eq_true rfl) (Nat.le_of_ble_eq_true rfl) (by decide) ?_
                      refine A_X12_must e1310 ?_
                      show z_G none 5 mX12_readLiteral 117 [some (.ref 139), some (.int a1), some (.int (z_tb q1.1)), some (.int (q1304.1 + (6 : Int32)))] [] q1309.2 Q
                      refine g_iload_n dX12_readLiteral_117 rfl rfl ?_
                      cases h
                      exact g_iret dX12_readLiteral_118 rfl rfl hq
                  · replace h := z_iff c1303 h
                    refine g_iconst (v := (0 : Int32)) dX12_readLiteral_92 (by decide) ?_
                    refine g_goto (t := 111) dX12_readLiteral_93 (by decide) ?_
                    refine g_istore_n (ls' := [some (.ref 139), some (.int a1), some (.int (z_tb q1.1)), some (.int (0 : Int32))]) dX12_readLiteral_111 rfl (Nat.le_of_ble_eq_true rfl) rfl ?_
                    refine g_aload_n dX12_readLiteral_112 rfl rfl ?_
                    refine g_iconst (v := (1 : Int32)) dX12_readLiteral_113 (by decide) ?_
                    obtain ⟨q1311, e1312, h⟩ := z_bd h
                    refine g_callV (a := 137) (as := [.int (1 : Int32)]) (rest := []) (c := mX12_must) (k1 := 2) dX12_readLiteral_114 rfl rfl rfl sh_137 rfl rfl (Nat.le_of_ble_eq_true rfl) (Nat.le_of_ble_eq_true rfl) (by decide) ?_
                    refine A_X12_must e1312 ?_
                    show z_G none 5 mX12_readLiteral 117 [some (.ref 139), some (.int a1), some (.int (z_tb q1.1)), some (.int (0 : Int32))] [] q1311.2 Q
                    refine g_iload_n dX12_readLiteral_117 rfl rfl ?_
                    cases h
                    exact g_iret dX12_readLiteral_118 rfl rfl hq
                · replace h := z_iff c1302 h
                  refine g_aload_n dX12_readLiteral_76 rfl rfl ?_
                  refine g_iconst (v := (5 : Int32)) dX12_readLiteral_77 (by decide) ?_
                  refine g_aload_n dX12_readLiteral_78 rfl rfl ?_
                  refine g_get (a := 137) (v := .int (q1300.2.1 137 15)) dX12_readLiteral_79 f_12_106 sh_137 rfl rfl ?_
                  obtain ⟨q1313, e1314, h⟩ := z_bd h
                  refine g_callV (a := 137) (as := [.int (5 : Int32), .int (q1300.2.1 137 15)]) (rest := []) (c := mX12_fail) (k1 := 0) dX12_readLiteral_82 rfl rfl rfl sh_137 rfl rfl (Nat.le_of_ble_eq_true rfl) (Nat.le_of_ble_eq_true rfl) (by decide) ?_
                  refine A_X12_fail e1314 ?_
                  show z_G none 5 mX12_readLiteral 85 [some (.ref 139), some (.int a1), some (.int (z_tb q1.1)), none] [] q1313.2 Q
                  refine g_aload_n dX12_readLiteral_85 rfl rfl ?_
                  refine g_get (a := 137) (v := .int (q1313.2.1 137 12)) dX12_readLiteral_86 f_12_212 sh_137 rfl rfl ?_
                  refine g_if_le (t := 96) dX12_readLiteral_89 (by decide) (fun c1315 => ?_) (fun c1315 => ?_)
                  · replace h := z_ift c1315 h
                    refine g_aload_n dX12_readLiteral_96 rfl rfl ?_
                    obtain ⟨q1316, e1317, h⟩ := z_bd h
                    refine g_callV (a := 137) (as := []) (rest := []) (c := mX12_named) (k1 := 0) dX12_readLiteral_97 rfl rfl rfl sh_137 rfl rfl (Nat.le_of_ble_eq_true rfl) (Nat.le_of_ble_eq_true rfl) (by decide) ?_
                    refine A_X12_named e1317 ?_
                    show z_G none 5 mX12_readLiteral 100 [some (.ref 139), some (.int a1), some (.int (z_tb q1.1)), none] [.int q1316.1] q1316.2 Q
                    refine g_iload_n dX12_readLiteral_100 rfl rfl ?_
                    refine g_if_eq (t := 109) dX12_readLiteral_101 (by decide) (fun c1318 => ?_) (fun c1318 => ?_)
                    · replace h := z_iff (z_tb0.mp c1318) h
                      refine g_iconst (v := (0 : Int32)) dX12_readLiteral_109 (by decide) ?_
                      refine g_iadd dX12_readLiteral_110 ?_
                      refine g_istore_n (ls' := [some (.ref 139), some (.int a1), some (.int (z_tb q1.1)), some (.int (q1316.1 + (0 : Int32)))]) dX12_readLiteral_111 rfl (Nat.le_of_ble_eq_true rfl) rfl ?_
                      refine g_aload_n dX12_readLiteral_112 rfl rfl ?_
                      refine g_iconst (v := (1 : Int32)) dX12_readLiteral_113 (by decide) ?_
                      obtain ⟨q1319, e1320, h⟩ := z_bd h
                      refine g_callV (a := 137) (as := [.int (1 : Int32)]) (rest := []) (c := mX12_must) (k1 := 2) dX12_readLiteral_114 rfl rfl rfl sh_137 rfl rfl (Nat.le_of_ble_eq_true rfl) (Nat.le_of_ble_eq_true rfl) (by decide) ?_
                      refine A_X12_must e1320 ?_
                      show z_G none 5 mX12_readLiteral 117 [some (.ref 139), some (.int a1), some (.int (z_tb q1.1)), some (.int (q1316.1 + (0 : Int32)))] [] q1319.2 Q
                      refine g_iload_n dX12_readLiteral_117 rfl rfl ?_
                      cases h
                      exact g_iret dX12_readLiteral_118 rfl rfl hq
                    · replace h := z_ift (z_tbn.mp c1318) h
                      refine g_bipush (v := (6 : Int32)) dX12_readLiteral_104 (by decide) ?_
                      refine g_goto (t := 110) dX12_readLiteral_106 (by decide) ?_
                      refine g_iadd dX12_readLiteral_110 ?_
                      refine g_istore_n (ls' := [some (.ref 139), some (.int a1), some (.int (z_tb q1.1)), some (.int (q1316.1 + (6 : Int32)))]) dX12_readLiteral_111 rfl (Nat.le_of_ble_eq_true rfl) rfl ?_
                      refine g_aload_n dX12_readLiteral_112 rfl rfl ?_
                      refine g_iconst (v := (1 : Int32)) dX12_readLiteral_113 (by decide) ?_
                      obtain ⟨q1321, e1322, h⟩ := z_bd h
                      refine g_callV (a := 137) (as := [.int (1 : Int32)]) (rest := []) (c := mX12_must) (k1 := 2) dX12_readLiteral_114 rfl rfl rfl sh_137 rfl rfl (Nat.le_of_ble_eq_true rfl) (Nat.le_of_ble_eq_true rfl) (by decide) ?_
                      refine A_X12_must e1322 ?_
                      show z_G none 5 mX12_readLiteral 117 [some (.ref 139), some (.int a1), some (.int (z_tb q1.1)), some (.int (q1316.1 + (6 : Int32)))] [] q1321.2 Q
                      refine g_iload_n dX12_readLiteral_117 rfl rfl ?_
                      cases h
                      exact g_iret dX12_readLiteral_118 rfl rfl hq
                  · replace h := z_iff c1315 h
                    refine g_iconst (v := (0 : Int32)) dX12_readLiteral_92 (by decide) ?_
                    refine g_goto (t := 111) dX12_readLiteral_93 (by decide) ?_
                    refine g_istore_n (ls' := [some (.ref 139), some (.int a1), some (.int (z_tb q1.1)), some (.int (0 : Int32))]) dX12_readLiteral_111 rfl (Nat.le_of_ble_eq_true rfl) rfl ?_
                    refine g_aload_n dX12_readLiteral_112 rfl rfl ?_
                    refine g_iconst (v := (1 : Int32)) dX12_readLiteral_113 (by decide) ?_
                    obtain ⟨q1323, e1324, h⟩ := z_bd h
                    refine g_callV (a := 137) (as := [.int (1 : Int32)]) (rest := []) (c := mX12_must) (k1 := 2) dX12_readLiteral_114 rfl rfl rfl sh_137 rfl rfl (Nat.le_of_ble_eq_true rfl) (Nat.le_of_ble_eq_true rfl) (by decide) ?_
                    refine A_X12_must e1324 ?_
                    show z_G none 5 mX12_readLiteral 117 [some (.ref 139), some (.int a1), some (.int (z_tb q1.1)), some (.int (0 : Int32))] [] q1323.2 Q
                    refine g_iload_n dX12_readLiteral_117 rfl rfl ?_
                    cases h
                    exact g_iret dX12_readLiteral_118 rfl rfl hq
          · replace h := z_iff (z_tb0.mp c1249) h
            refine g_aload_n dX12_readLiteral_45 rfl rfl ?_
            obtain ⟨q1325, e1326, h⟩ := z_bd h
            refine g_callV (a := 137) (as := []) (rest := []) (c := mX12_amiss) (k1 := 1) dX12_readLiteral_46 rfl rfl rfl sh_137 rfl rfl (Nat.le_of_ble_eq_true rfl) (Nat.le_of_ble_eq_true rfl) (by decide) ?_
            refine A_X12_amiss e1326 ?_
            show z_G none 5 mX12_readLiteral 49 [some (.ref 139), some (.int a1), some (.int (z_tb q1.1)), none] [] q1325.2 Q
            refine g_aload_n dX12_readLiteral_49 rfl rfl ?_
            refine g_get (a := 137) (v := .int (q1325.2.1 137 12)) dX12_readLiteral_50 f_12_212 sh_137 rfl rfl ?_
            refine g_if_ne (t := 72) dX12_readLiteral_53 (by decide) (fun c1327 => ?_) (fun c1327 => ?_)
            · replace h := z_iff c1327 h
              refine g_iload_n dX12_readLiteral_72 rfl rfl ?_
              refine g_if_eq (t := 85) dX12_readLiteral_73 (by decide) (fun c1328 => ?_) (fun c1328 => ?_)
              · replace h := z_ift c1328 h
                refine g_aload_n dX12_readLiteral_85 rfl rfl ?_
                refine g_get (a := 137) (v := .int (q1325.2.1 137 12)) dX12_readLiteral_86 f_12_212 sh_137 rfl rfl ?_
                refine g_if_le (t := 96) dX12_readLiteral_89 (by decide) (fun c1329 => ?_) (fun c1329 => ?_)
                · replace h := z_ift c1329 h
                  refine g_aload_n dX12_readLiteral_96 rfl rfl ?_
                  obtain ⟨q1330, e1331, h⟩ := z_bd h
                  refine g_callV (a := 137) (as := []) (rest := []) (c := mX12_named) (k1 := 0) dX12_readLiteral_97 rfl rfl rfl sh_137 rfl rfl (Nat.le_of_ble_eq_true rfl) (Nat.le_of_ble_eq_true rfl) (by decide) ?_
                  refine A_X12_named e1331 ?_
                  show z_G none 5 mX12_readLiteral 100 [some (.ref 139), some (.int a1), some (.int (z_tb q1.1)), none] [.int q1330.1] q1330.2 Q
                  refine g_iload_n dX12_readLiteral_100 rfl rfl ?_
                  refine g_if_eq (t := 109) dX12_readLiteral_101 (by decide) (fun c1332 => ?_) (fun c1332 => ?_)
                  · replace h := z_iff (z_tb0.mp c1332) h
                    refine g_iconst (v := (0 : Int32)) dX12_readLiteral_109 (by decide) ?_
                    refine g_iadd dX12_readLiteral_110 ?_
                    refine g_istore_n (ls' := [some (.ref 139), some (.int a1), some (.int (z_tb q1.1)), some (.int (q1330.1 + (0 : Int32)))]) dX12_readLiteral_111 rfl (Nat.le_of_ble_eq_true rfl) rfl ?_
                    refine g_aload_n dX12_readLiteral_112 rfl rfl ?_
                    refine g_iconst (v := (1 : Int32)) dX12_readLiteral_113 (by decide) ?_
                    obtain ⟨q1333, e1334, h⟩ := z_bd h
                    refine g_callV (a := 137) (as := [.int (1 : Int32)]) (rest := []) (c := mX12_must) (k1 := 2) dX12_readLiteral_114 rfl rfl rfl sh_137 rfl rfl (Nat.le_of_ble_eq_true rfl) (Nat.le_of_ble_eq_true rfl) (by decide) ?_
                    refine A_X12_must e1334 ?_
                    show z_G none 5 mX12_readLiteral 117 [some (.ref 139), some (.int a1), some (.int (z_tb q1.1)), some (.int (q1330.1 + (0 : Int32)))] [] q1333.2 Q
                    refine g_iload_n dX12_readLiteral_117 rfl rfl ?_
                    cases h
                    exact g_iret dX12_readLiteral_118 rfl rfl hq
                  · replace h := z_ift (z_tbn.mp c1332) h
                    refine g_bipush (v := (6 : Int32)) dX12_readLiteral_104 (by decide) ?_
                    refine g_goto (t := 110) dX12_readLiteral_106 (by decide) ?_
                    refine g_iadd dX12_readLiteral_110 ?_
                    refine g_istore_n (ls' := [some (.ref 139), some (.int a1), some (.int (z_tb q1.1)), some (.int (q1330.1 + (6 : Int32)))]) dX12_readLiteral_111 rfl (Nat.le_of_ble_eq_true rfl) rfl ?_
                    refine g_aload_n dX12_readLiteral_112 rfl rfl ?_
                    refine g_iconst (v := (1 : Int32)) dX12_readLiteral_113 (by decide) ?_
                    obtain ⟨q1335, e1336, h⟩ := z_bd h
                    refine g_callV (a := 137) (as := [.int (1 : Int32)]) (rest := []) (c := mX12_must) (k1 := 2) dX12_readLiteral_114 rfl rfl rfl sh_137 rfl rfl (Nat.le_of_ble_eq_true rfl) (Nat.le_of_ble_eq_true rfl) (by decide) ?_
                    refine A_X12_must e1336 ?_
                    show z_G none 5 mX12_readLiteral 117 [some (.ref 139), some (.int a1), some (.int (z_tb q1.1)), some (.int (q1330.1 + (6 : Int32)))] [] q1335.2 Q
                    refine g_iload_n dX12_readLiteral_117 rfl rfl ?_
                    cases h
                    exact g_iret dX12_readLiteral_118 rfl rfl hq
                · replace h := z_iff c1329 h
                  refine g_iconst (v := (0 : Int32)) dX12_readLiteral_92 (by decide) ?_
                  refine g_goto (t := 111) dX12_readLiteral_93 (by decide) ?_
                  refine g_istore_n (ls' := [some (.ref 139), some (.int a1), some (.int (z_tb q1.1)), some (.int (0 : Int32))]) dX12_readLiteral_111 rfl (Nat.le_of_ble_eq_true rfl) rfl ?_
                  refine g_aload_n dX12_readLiteral_112 rfl rfl ?_
                  refine g_iconst (v := (1 : Int32)) dX12_readLiteral_113 (by decide) ?_
                  obtain ⟨q1337, e1338, h⟩ := z_bd h
                  refine g_callV (a := 137) (as := [.int (1 : Int32)]) (rest := []) (c := mX12_must) (k1 := 2) dX12_readLiteral_114 rfl rfl rfl sh_137 rfl rfl (Nat.le_of_ble_eq_true rfl) (Nat.le_of_ble_eq_true rfl) (by decide) ?_
                  refine A_X12_must e1338 ?_
                  show z_G none 5 mX12_readLiteral 117 [some (.ref 139), some (.int a1), some (.int (z_tb q1.1)), some (.int (0 : Int32))] [] q1337.2 Q
                  refine g_iload_n dX12_readLiteral_117 rfl rfl ?_
                  cases h
                  exact g_iret dX12_readLiteral_118 rfl rfl hq
              · replace h := z_iff c1328 h
                refine g_aload_n dX12_readLiteral_76 rfl rfl ?_
                refine g_iconst (v := (5 : Int32)) dX12_readLiteral_77 (by decide) ?_
                refine g_aload_n dX12_readLiteral_78 rfl rfl ?_
                refine g_get (a := 137) (v := .int (q1325.2.1 137 15)) dX12_readLiteral_79 f_12_106 sh_137 rfl rfl ?_
                obtain ⟨q1339, e1340, h⟩ := z_bd h
                refine g_callV (a := 137) (as := [.int (5 : Int32), .int (q1325.2.1 137 15)]) (rest := []) (c := mX12_fail) (k1 := 0) dX12_readLiteral_82 rfl rfl rfl sh_137 rfl rfl (Nat.le_of_ble_eq_true rfl) (Nat.le_of_ble_eq_true rfl) (by decide) ?_
                refine A_X12_fail e1340 ?_
                show z_G none 5 mX12_readLiteral 85 [some (.ref 139), some (.int a1), some (.int (z_tb q1.1)), none] [] q1339.2 Q
                refine g_aload_n dX12_readLiteral_85 rfl rfl ?_
                refine g_get (a := 137) (v := .int (q1339.2.1 137 12)) dX12_readLiteral_86 f_12_212 sh_137 rfl rfl ?_
                refine g_if_le (t := 96) dX12_readLiteral_89 (by decide) (fun c1341 => ?_) (fun c1341 => ?_)
                · replace h := z_ift c1341 h
                  refine g_aload_n dX12_readLiteral_96 rfl rfl ?_
                  obtain ⟨q1342, e1343, h⟩ := z_bd h
                  refine g_callV (a := 137) (as := []) (rest := []) (c := mX12_named) (k1 := 0) dX12_readLiteral_97 rfl rfl rfl sh_137 rfl rfl (Nat.le_of_ble_eq_true rfl) (Nat.le_of_ble_eq_true rfl) (by decide) ?_
                  refine A_X12_named e1343 ?_
                  show z_G none 5 mX12_readLiteral 100 [some (.ref 139), some (.int a1), some (.int (z_tb q1.1)), none] [.int q1342.1] q1342.2 Q
                  refine g_iload_n dX12_readLiteral_100 rfl rfl ?_
                  refine g_if_eq (t := 109) dX12_readLiteral_101 (by decide) (fun c1344 => ?_) (fun c1344 => ?_)
                  · replace h := z_iff (z_tb0.mp c1344) h
                    refine g_iconst (v := (0 : Int32)) dX12_readLiteral_109 (by decide) ?_
                    refine g_iadd dX12_readLiteral_110 ?_
                    refine g_istore_n (ls' := [some (.ref 139), some (.int a1), some (.int (z_tb q1.1)), some (.int (q1342.1 + (0 : Int32)))]) dX12_readLiteral_111 rfl (Nat.le_of_ble_eq_true rfl) rfl ?_
                    refine g_aload_n dX12_readLiteral_112 rfl rfl ?_
                    refine g_iconst (v := (1 : Int32)) dX12_readLiteral_113 (by decide) ?_
                    obtain ⟨q1345, e1346, h⟩ := z_bd h
                    refine g_callV (a := 137) (as := [.int (1 : Int32)]) (rest := []) (c := mX12_must) (k1 := 2) dX12_readLiteral_114 rfl rfl rfl sh_137 rfl rfl (Nat.le_of_ble_eq_true rfl) (Nat.le_of_ble_eq_true rfl) (by decide) ?_
                    refine A_X12_must e1346 ?_
                    show z_G none 5 mX12_readLiteral 117 [some (.ref 139), some (.int a1), some (.int (z_tb q1.1)), some (.int (q1342.1 + (0 : Int32)))] [] q1345.2 Q
                    refine g_iload_n dX12_readLiteral_117 rfl rfl ?_
                    cases h
                    exact g_iret dX12_readLiteral_118 rfl rfl hq
                  · replace h := z_ift (z_tbn.mp c1344) h
                    refine g_bipush (v := (6 : Int32)) dX12_readLiteral_104 (by decide) ?_
                    refine g_goto (t := 110) dX12_readLiteral_106 (by decide) ?_
                    refine g_iadd dX12_readLiteral_110 ?_
                    refine g_istore_n (ls' := [some (.ref 139), some (.int a1), some (.int (z_tb q1.1)), some (.int (q1342.1 + (6 : Int32)))]) dX12_readLiteral_111 rfl (Nat.le_of_ble_eq_true rfl) rfl ?_
                    refine g_aload_n dX12_readLiteral_112 rfl rfl ?_
                    refine g_iconst (v := (1 : Int32)) dX12_readLiteral_113 (by decide) ?_
                    obtain ⟨q1347, e1348, h⟩ := z_bd h
                    refine g_callV (a := 137) (as := [.int (1 : Int32)]) (rest := []) (c := mX12_must) (k1 := 2) dX12_readLiteral_114 rfl rfl rfl sh_137 rfl rfl (Nat.le_of_ble_eq_true rfl) (Nat.le_of_ble_eq_true rfl) (by decide) ?_
                    refine A_X12_must e1348 ?_
                    show z_G none 5 mX12_readLiteral 117 [some (.ref 139), some (.int a1), some (.int (z_tb q1.1)), some (.int (q1342.1 + (6 : Int32)))] [] q1347.2 Q
                    refine g_iload_n dX12_readLiteral_117 rfl rfl ?_
                    cases h
                    exact g_iret dX12_readLiteral_118 rfl rfl hq
                · replace h := z_iff c1341 h
                  refine g_iconst (v := (0 : Int32)) dX12_readLiteral_92 (by decide) ?_
                  refine g_goto (t := 111) dX12_readLiteral_93 (by decide) ?_
                  refine g_istore_n (ls' := [some (.ref 139), some (.int a1), some (.int (z_tb q1.1)), some (.int (0 : Int32))]) dX12_readLiteral_111 rfl (Nat.le_of_ble_eq_true rfl) rfl ?_
                  refine g_aload_n dX12_readLiteral_112 rfl rfl ?_
                  refine g_iconst (v := (1 : Int32)) dX12_readLiteral_113 (by decide) ?_
                  obtain ⟨q1349, e1350, h⟩ := z_bd h
                  refine g_callV (a := 137) (as := [.int (1 : Int32)]) (rest := []) (c := mX12_must) (k1 := 2) dX12_readLiteral_114 rfl rfl rfl sh_137 rfl rfl (Nat.le_of_ble_eq_true rfl) (Nat.le_of_ble_eq_true rfl) (by decide) ?_
                  refine A_X12_must e1350 ?_
                  show z_G none 5 mX12_readLiteral 117 [some (.ref 139), some (.int a1), some (.int (z_tb q1.1)), some (.int (0 : Int32))] [] q1349.2 Q
                  refine g_iload_n dX12_readLiteral_117 rfl rfl ?_
                  cases h
                  exact g_iret dX12_readLiteral_118 rfl rfl hq
            · replace h := z_ift c1327 h
              refine g_aload_n dX12_readLiteral_56 rfl rfl ?_
              obtain ⟨q1351, e1352, h⟩ := z_bd h
              refine g_callV (a := 137) (as := []) (rest := []) (c := mX12_named) (k1 := 0) dX12_readLiteral_57 rfl rfl rfl sh_137 rfl rfl (Nat.le_of_ble_eq_true rfl) (Nat.le_of_ble_eq_true rfl) (by decide) ?_
              refine A_X12_named e1352 ?_
              show z_G none 5 mX12_readLiteral 60 [some (.ref 139), some (.int a1), some (.int (z_tb q1.1)), none] [.int q1351.1] q1351.2 Q
              refine g_if_ge (t := 72) dX12_readLiteral_60 (by decide) (fun c1353 => ?_) (fun c1353 => ?_)
              · replace h := z_ift c1353 h
                refine g_iload_n dX12_readLiteral_72 rfl rfl ?_
                refine g_if_eq (t := 85) dX12_readLiteral_73 (by decide) (fun c1354 => ?_) (fun c1354 => ?_)
                · replace h := z_ift c1354 h
                  refine g_aload_n dX12_readLiteral_85 rfl rfl ?_
                  refine g_get (a := 137) (v := .int (q1351.2.1 137 12)) dX12_readLiteral_86 f_12_212 sh_137 rfl rfl ?_
                  refine g_if_le (t := 96) dX12_readLiteral_89 (by decide) (fun c1355 => ?_) (fun c1355 => ?_)
                  · replace h := z_ift c1355 h
                    refine g_aload_n dX12_readLiteral_96 rfl rfl ?_
                    obtain ⟨q1356, e1357, h⟩ := z_bd h
                    refine g_callV (a := 137) (as := []) (rest := []) (c := mX12_named) (k1 := 0) dX12_readLiteral_97 rfl rfl rfl sh_137 rfl rfl (Nat.le_of_ble_eq_true rfl) (Nat.le_of_ble_eq_true rfl) (by decide) ?_
                    refine A_X12_named e1357 ?_
                    show z_G none 5 mX12_readLiteral 100 [some (.ref 139), some (.int a1), some (.int (z_tb q1.1)), none] [.int q1356.1] q1356.2 Q
                    refine g_iload_n dX12_readLiteral_100 rfl rfl ?_
                    refine g_if_eq (t := 109) dX12_readLiteral_101 (by decide) (fun c1358 => ?_) (fun c1358 => ?_)
                    · replace h := z_iff (z_tb0.mp c1358) h
                      refine g_iconst (v := (0 : Int32)) dX12_readLiteral_109 (by decide) ?_
                      refine g_iadd dX12_readLiteral_110 ?_
                      refine g_istore_n (ls' := [some (.ref 139), some (.int a1), some (.int (z_tb q1.1)), some (.int (q1356.1 + (0 : Int32)))]) dX12_readLiteral_111 rfl (Nat.le_of_ble_eq_true rfl) rfl ?_
                      refine g_aload_n dX12_readLiteral_112 rfl rfl ?_
                      refine g_iconst (v := (1 : Int32)) dX12_readLiteral_113 (by decide) ?_
                      obtain ⟨q1359, e1360, h⟩ := z_bd h
                      refine g_callV (a := 137) (as := [.int (1 : Int32)]) (rest := []) (c := mX12_must) (k1 := 2) dX12_readLiteral_114 rfl rfl rfl sh_137 rfl rfl (Nat.le_of_ble_eq_true rfl) (Nat.le_of_ble_eq_true rfl) (by decide) ?_
                      refine A_X12_must e1360 ?_
                      show z_G none 5 mX12_readLiteral 117 [some (.ref 139), some (.int a1), some (.int (z_tb q1.1)), some (.int (q1356.1 + (0 : Int32)))] [] q1359.2 Q
                      refine g_iload_n dX12_readLiteral_117 rfl rfl ?_
                      cases h
                      exact g_iret dX12_readLiteral_118 rfl rfl hq
                    · replace h := z_ift (z_tbn.mp c1358) h
                      refine g_bipush (v := (6 : Int32)) dX12_readLiteral_104 (by decide) ?_
                      refine g_goto (t := 110) dX12_readLiteral_106 (by decide) ?_
                      refine g_iadd dX12_readLiteral_110 ?_
                      refine g_istore_n (ls' := [some (.ref 139), some (.int a1), some (.int (z_tb q1.1)), some (.int (q1356.1 + (6 : Int32)))]) dX12_readLiteral_111 rfl (Nat.le_of_ble_eq_true rfl) rfl ?_
                      refine g_aload_n dX12_readLiteral_112 rfl rfl ?_
                      refine g_iconst (v := (1 : Int32)) dX12_readLiteral_113 (by decide) ?_
                      obtain ⟨q1361, e1362, h⟩ := z_bd h
                      refine g_callV (a := 137) (as := [.int (1 : Int32)]) (rest := []) (c := mX12_must) (k1 := 2) dX12_readLiteral_114 rfl rfl rfl sh_137 rfl rfl (Nat.le_of_ble_eq_true rfl) (Nat.le_of_ble_eq_true rfl) (by decide) ?_
                      refine A_X12_must e1362 ?_
                      show z_G none 5 mX12_readLiteral 117 [some (.ref 139), some (.int a1), some (.int (z_tb q1.1)), some (.int (q1356.1 + (6 : Int32)))] [] q1361.2 Q
                      refine g_iload_n dX12_readLiteral_117 rfl rfl ?_
                      cases h
                      exact g_iret dX12_readLiteral_118 rfl rfl hq
                  · replace h := z_iff c1355 h
                    refine g_iconst (v := (0 : Int32)) dX12_readLiteral_92 (by decide) ?_
                    refine g_goto (t := 111) dX12_readLiteral_93 (by decide) ?_
                    refine g_istore_n (ls' := [some (.ref 139), some (.int a1), some (.int (z_tb q1.1)), some (.int (0 : Int32))]) dX12_readLiteral_111 rfl (Nat.le_of_ble_eq_true rfl) rfl ?_
                    refine g_aload_n dX12_readLiteral_112 rfl rfl ?_
                    refine g_iconst (v := (1 : Int32)) dX12_readLiteral_113 (by decide) ?_
                    obtain ⟨q1363, e1364, h⟩ := z_bd h
                    refine g_callV (a := 137) (as := [.int (1 : Int32)]) (rest := []) (c := mX12_must) (k1 := 2) dX12_readLiteral_114 rfl rfl rfl sh_137 rfl rfl (Nat.le_of_ble_eq_true rfl) (Nat.le_of_ble_eq_true rfl) (by decide) ?_
                    refine A_X12_must e1364 ?_
                    show z_G none 5 mX12_readLiteral 117 [some (.ref 139), some (.int a1), some (.int (z_tb q1.1)), some (.int (0 : Int32))] [] q1363.2 Q
                    refine g_iload_n dX12_readLiteral_117 rfl rfl ?_
                    cases h
                    exact g_iret dX12_readLiteral_118 rfl rfl hq
                · replace h := z_iff c1354 h
                  refine g_aload_n dX12_readLiteral_76 rfl rfl ?_
                  refine g_iconst (v := (5 : Int32)) dX12_readLiteral_77 (by decide) ?_
                  refine g_aload_n dX12_readLiteral_78 rfl rfl ?_
                  refine g_get (a := 137) (v := .int (q1351.2.1 137 15)) dX12_readLiteral_79 f_12_106 sh_137 rfl rfl ?_
                  obtain ⟨q1365, e1366, h⟩ := z_bd h
                  refine g_callV (a := 137) (as := [.int (5 : Int32), .int (q1351.2.1 137 15)]) (rest := []) (c := mX12_fail) (k1 := 0) dX12_readLiteral_82 rfl rfl rfl sh_137 rfl rfl (Nat.le_of_ble_eq_true rfl) (Nat.le_of_ble_eq_true rfl) (by decide) ?_
                  refine A_X12_fail e1366 ?_
                  show z_G none 5 mX12_readLiteral 85 [some (.ref 139), some (.int a1), some (.int (z_tb q1.1)), none] [] q1365.2 Q
                  refine g_aload_n dX12_readLiteral_85 rfl rfl ?_
                  refine g_get (a := 137) (v := .int (q1365.2.1 137 12)) dX12_readLiteral_86 f_12_212 sh_137 rfl rfl ?_
                  refine g_if_le (t := 96) dX12_readLiteral_89 (by decide) (fun c1367 => ?_) (fun c1367 => ?_)
                  · replace h := z_ift c1367 h
                    refine g_aload_n dX12_readLiteral_96 rfl rfl ?_
                    obtain ⟨q1368, e1369, h⟩ := z_bd h
                    refine g_callV (a := 137) (as := []) (rest := []) (c := mX12_named) (k1 := 0) dX12_readLiteral_97 rfl rfl rfl sh_137 rfl rfl (Nat.le_of_ble_eq_true rfl) (Nat.le_of_ble_eq_true rfl) (by decide) ?_
                    refine A_X12_named e1369 ?_
                    show z_G none 5 mX12_readLiteral 100 [some (.ref 139), some (.int a1), some (.int (z_tb q1.1)), none] [.int q1368.1] q1368.2 Q
                    refine g_iload_n dX12_readLiteral_100 rfl rfl ?_
                    refine g_if_eq (t := 109) dX12_readLiteral_101 (by decide) (fun c1370 => ?_) (fun c1370 => ?_)
                    · replace h := z_iff (z_tb0.mp c1370) h
                      refine g_iconst (v := (0 : Int32)) dX12_readLiteral_109 (by decide) ?_
                      refine g_iadd dX12_readLiteral_110 ?_
                      refine g_istore_n (ls' := [some (.ref 139), some (.int a1), some (.int (z_tb q1.1)), some (.int (q1368.1 + (0 : Int32)))]) dX12_readLiteral_111 rfl (Nat.le_of_ble_eq_true rfl) rfl ?_
                      refine g_aload_n dX12_readLiteral_112 rfl rfl ?_
                      refine g_iconst (v := (1 : Int32)) dX12_readLiteral_113 (by decide) ?_
                      obtain ⟨q1371, e1372, h⟩ := z_bd h
                      refine g_callV (a := 137) (as := [.int (1 : Int32)]) (rest := []) (c := mX12_must) (k1 := 2) dX12_readLiteral_114 rfl rfl rfl sh_137 rfl rfl (Nat.le_of_ble_eq_true rfl) (Nat.le_of_ble_eq_true rfl) (by decide) ?_
                      refine A_X12_must e1372 ?_
                      show z_G none 5 mX12_readLiteral 117 [some (.ref 139), some (.int a1), some (.int (z_tb q1.1)), some (.int (q1368.1 + (0 : Int32)))] [] q1371.2 Q
                      refine g_iload_n dX12_readLiteral_117 rfl rfl ?_
                      cases h
                      exact g_iret dX12_readLiteral_118 rfl rfl hq
                    · replace h := z_ift (z_tbn.mp c1370) h
                      refine g_bipush (v := (6 : Int32)) dX12_readLiteral_104 (by decide) ?_
                      refine g_goto (t := 110) dX12_readLiteral_106 (by decide) ?_
                      refine g_iadd dX12_readLiteral_110 ?_
                      refine g_istore_n (ls' := [some (.ref 139), some (.int a1), some (.int (z_tb q1.1)), some (.int (q1368.1 + (6 : Int32)))]) dX12_readLiteral_111 rfl (Nat.le_of_ble_eq_true rfl) rfl ?_
                      refine g_aload_n dX12_readLiteral_112 rfl rfl ?_
                      refine g_iconst (v := (1 : Int32)) dX12_readLiteral_113 (by decide) ?_
                      obtain ⟨q1373, e1374, h⟩ := z_bd h
                      refine g_callV (a := 137) (as := [.int (1 : Int32)]) (rest := []) (c := mX12_must) (k1 := 2) dX12_readLiteral_114 rfl rfl rfl sh_137 rfl rfl (Nat.le_of_ble_eq_true rfl) (Nat.le_of_ble_eq_true rfl) (by decide) ?_
                      refine A_X12_must e1374 ?_
                      show z_G none 5 mX12_readLiteral 117 [some (.ref 139), some (.int a1), some (.int (z_tb q1.1)), some (.int (q1368.1 + (6 : Int32)))] [] q1373.2 Q
                      refine g_iload_n dX12_readLiteral_117 rfl rfl ?_
                      cases h
                      exact g_iret dX12_readLiteral_118 rfl rfl hq
                  · replace h := z_iff c1367 h
                    refine g_iconst (v := (0 : Int32)) dX12_readLiteral_92 (by decide) ?_
                    refine g_goto (t := 111) dX12_readLiteral_93 (by decide) ?_
                    refine g_istore_n (ls' := [some (.ref 139), some (.int a1), some (.int (z_tb q1.1)), some (.int (0 : Int32))]) dX12_readLiteral_111 rfl (Nat.le_of_ble_eq_true rfl) rfl ?_
                    refine g_aload_n dX12_readLiteral_112 rfl rfl ?_
                    refine g_iconst (v := (1 : Int32)) dX12_readLiteral_113 (by decide) ?_
                    obtain ⟨q1375, e1376, h⟩ := z_bd h
                    refine g_callV (a := 137) (as := [.int (1 : Int32)]) (rest := []) (c := mX12_must) (k1 := 2) dX12_readLiteral_114 rfl rfl rfl sh_137 rfl rfl (Nat.le_of_ble_eq_true rfl) (Nat.le_of_ble_eq_true rfl) (by decide) ?_
                    refine A_X12_must e1376 ?_
                    show z_G none 5 mX12_readLiteral 117 [some (.ref 139), some (.int a1), some (.int (z_tb q1.1)), some (.int (0 : Int32))] [] q1375.2 Q
                    refine g_iload_n dX12_readLiteral_117 rfl rfl ?_
                    cases h
                    exact g_iret dX12_readLiteral_118 rfl rfl hq
              · replace h := z_iff c1353 h
                refine g_aload_n dX12_readLiteral_63 rfl rfl ?_
                refine g_iconst (v := (3 : Int32)) dX12_readLiteral_64 (by decide) ?_
                refine g_aload_n dX12_readLiteral_65 rfl rfl ?_
                refine g_get (a := 137) (v := .int (q1351.2.1 137 15)) dX12_readLiteral_66 f_12_106 sh_137 rfl rfl ?_
                obtain ⟨q1377, e1378, h⟩ := z_bd h
                refine g_callV (a := 137) (as := [.int (3 : Int32), .int (q1351.2.1 137 15)]) (rest := []) (c := mX12_fail) (k1 := 0) dX12_readLiteral_69 rfl rfl rfl sh_137 rfl rfl (Nat.le_of_ble_eq_true rfl) (Nat.le_of_ble_eq_true rfl) (by decide) ?_
                refine A_X12_fail e1378 ?_
                show z_G none 5 mX12_readLiteral 72 [some (.ref 139), some (.int a1), some (.int (z_tb q1.1)), none] [] q1377.2 Q
                refine g_iload_n dX12_readLiteral_72 rfl rfl ?_
                refine g_if_eq (t := 85) dX12_readLiteral_73 (by decide) (fun c1379 => ?_) (fun c1379 => ?_)
                · replace h := z_ift c1379 h
                  refine g_aload_n dX12_readLiteral_85 rfl rfl ?_
                  refine g_get (a := 137) (v := .int (q1377.2.1 137 12)) dX12_readLiteral_86 f_12_212 sh_137 rfl rfl ?_
                  refine g_if_le (t := 96) dX12_readLiteral_89 (by decide) (fun c1380 => ?_) (fun c1380 => ?_)
                  · replace h := z_ift c1380 h
                    refine g_aload_n dX12_readLiteral_96 rfl rfl ?_
                    obtain ⟨q1381, e1382, h⟩ := z_bd h
                    refine g_callV (a := 137) (as := []) (rest := []) (c := mX12_named) (k1 := 0) dX12_readLiteral_97 rfl rfl rfl sh_137 rfl rfl (Nat.le_of_ble_eq_true rfl) (Nat.le_of_ble_eq_true rfl) (by decide) ?_
                    refine A_X12_named e1382 ?_
                    show z_G none 5 mX12_readLiteral 100 [some (.ref 139), some (.int a1), some (.int (z_tb q1.1)), none] [.int q1381.1] q1381.2 Q
                    refine g_iload_n dX12_readLiteral_100 rfl rfl ?_
                    refine g_if_eq (t := 109) dX12_readLiteral_101 (by decide) (fun c1383 => ?_) (fun c1383 => ?_)
                    · replace h := z_iff (z_tb0.mp c1383) h
                      refine g_iconst (v := (0 : Int32)) dX12_readLiteral_109 (by decide) ?_
                      refine g_iadd dX12_readLiteral_110 ?_
                      refine g_istore_n (ls' := [some (.ref 139), some (.int a1), some (.int (z_tb q1.1)), some (.int (q1381.1 + (0 : Int32)))]) dX12_readLiteral_111 rfl (Nat.le_of_ble_eq_true rfl) rfl ?_
                      refine g_aload_n dX12_readLiteral_112 rfl rfl ?_
                      refine g_iconst (v := (1 : Int32)) dX12_readLiteral_113 (by decide) ?_
                      obtain ⟨q1384, e1385, h⟩ := z_bd h
                      refine g_callV (a := 137) (as := [.int (1 : Int32)]) (rest := []) (c := mX12_must) (k1 := 2) dX12_readLiteral_114 rfl rfl rfl sh_137 rfl rfl (Nat.le_of_ble_eq_true rfl) (Nat.le_of_ble_eq_true rfl) (by decide) ?_
                      refine A_X12_must e1385 ?_
                      show z_G none 5 mX12_readLiteral 117 [some (.ref 139), some (.int a1), some (.int (z_tb q1.1)), some (.int (q1381.1 + (0 : Int32)))] [] q1384.2 Q
                      refine g_iload_n dX12_readLiteral_117 rfl rfl ?_
                      cases h
                      exact g_iret dX12_readLiteral_118 rfl rfl hq
                    · replace h := z_ift (z_tbn.mp c1383) h
                      refine g_bipush (v := (6 : Int32)) dX12_readLiteral_104 (by decide) ?_
                      refine g_goto (t := 110) dX12_readLiteral_106 (by decide) ?_
                      refine g_iadd dX12_readLiteral_110 ?_
                      refine g_istore_n (ls' := [some (.ref 139), some (.int a1), some (.int (z_tb q1.1)), some (.int (q1381.1 + (6 : Int32)))]) dX12_readLiteral_111 rfl (Nat.le_of_ble_eq_true rfl) rfl ?_
                      refine g_aload_n dX12_readLiteral_112 rfl rfl ?_
                      refine g_iconst (v := (1 : Int32)) dX12_readLiteral_113 (by decide) ?_
                      obtain ⟨q1386, e1387, h⟩ := z_bd h
                      refine g_callV (a := 137) (as := [.int (1 : Int32)]) (rest := []) (c := mX12_must) (k1 := 2) dX12_readLiteral_114 rfl rfl rfl sh_137 rfl rfl (Nat.le_of_ble_eq_true rfl) (Nat.le_of_ble_eq_true rfl) (by decide) ?_
                      refine A_X12_must e1387 ?_
                      show z_G none 5 mX12_readLiteral 117 [some (.ref 139), some (.int a1), some (.int (z_tb q1.1)), some (.int (q1381.1 + (6 : Int32)))] [] q1386.2 Q
                      refine g_iload_n dX12_readLiteral_117 rfl rfl ?_
                      cases h
                      exact g_iret dX12_readLiteral_118 rfl rfl hq
                  · replace h := z_iff c1380 h
                    refine g_iconst (v := (0 : Int32)) dX12_readLiteral_92 (by decide) ?_
                    refine g_goto (t := 111) dX12_readLiteral_93 (by decide) ?_
                    refine g_istore_n (ls' := [some (.ref 139), some (.int a1), some (.int (z_tb q1.1)), some (.int (0 : Int32))]) dX12_readLiteral_111 rfl (Nat.le_of_ble_eq_true rfl) rfl ?_
                    refine g_aload_n dX12_readLiteral_112 rfl rfl ?_
                    refine g_iconst (v := (1 : Int32)) dX12_readLiteral_113 (by decide) ?_
                    obtain ⟨q1388, e1389, h⟩ := z_bd h
                    refine g_callV (a := 137) (as := [.int (1 : Int32)]) (rest := []) (c := mX12_must) (k1 := 2) dX12_readLiteral_114 rfl rfl rfl sh_137 rfl rfl (Nat.le_of_ble_eq_true rfl) (Nat.le_of_ble_eq_true rfl) (by decide) ?_
                    refine A_X12_must e1389 ?_
                    show z_G none 5 mX12_readLiteral 117 [some (.ref 139), some (.int a1), some (.int (z_tb q1.1)), some (.int (0 : Int32))] [] q1388.2 Q
                    refine g_iload_n dX12_readLiteral_117 rfl rfl ?_
                    cases h
                    exact g_iret dX12_readLiteral_118 rfl rfl hq
                · replace h := z_iff c1379 h
                  refine g_aload_n dX12_readLiteral_76 rfl rfl ?_
                  refine g_iconst (v := (5 : Int32)) dX12_readLiteral_77 (by decide) ?_
                  refine g_aload_n dX12_readLiteral_78 rfl rfl ?_
                  refine g_get (a := 137) (v := .int (q1377.2.1 137 15)) dX12_readLiteral_79 f_12_106 sh_137 rfl rfl ?_
                  obtain ⟨q1390, e1391, h⟩ := z_bd h
                  refine g_callV (a := 137) (as := [.int (5 : Int32), .int (q1377.2.1 137 15)]) (rest := []) (c := mX12_fail) (k1 := 0) dX12_readLiteral_82 rfl rfl rfl sh_137 rfl rfl (Nat.le_of_ble_eq_true rfl) (Nat.le_of_ble_eq_true rfl) (by decide) ?_
                  refine A_X12_fail e1391 ?_
                  show z_G none 5 mX12_readLiteral 85 [some (.ref 139), some (.int a1), some (.int (z_tb q1.1)), none] [] q1390.2 Q
                  refine g_aload_n dX12_readLiteral_85 rfl rfl ?_
                  refine g_get (a := 137) (v := .int (q1390.2.1 137 12)) dX12_readLiteral_86 f_12_212 sh_137 rfl rfl ?_
                  refine g_if_le (t := 96) dX12_readLiteral_89 (by decide) (fun c1392 => ?_) (fun c1392 => ?_)
                  · replace h := z_ift c1392 h
                    refine g_aload_n dX12_readLiteral_96 rfl rfl ?_
                    obtain ⟨q1393, e1394, h⟩ := z_bd h
                    refine g_callV (a := 137) (as := []) (rest := []) (c := mX12_named) (k1 := 0) dX12_readLiteral_97 rfl rfl rfl sh_137 rfl rfl (Nat.le_of_ble_eq_true rfl) (Nat.le_of_ble_eq_true rfl) (by decide) ?_
                    refine A_X12_named e1394 ?_
                    show z_G none 5 mX12_readLiteral 100 [some (.ref 139), some (.int a1), some (.int (z_tb q1.1)), none] [.int q1393.1] q1393.2 Q
                    refine g_iload_n dX12_readLiteral_100 rfl rfl ?_
                    refine g_if_eq (t := 109) dX12_readLiteral_101 (by decide) (fun c1395 => ?_) (fun c1395 => ?_)
                    · replace h := z_iff (z_tb0.mp c1395) h
                      refine g_iconst (v := (0 : Int32)) dX12_readLiteral_109 (by decide) ?_
                      refine g_iadd dX12_readLiteral_110 ?_
                      refine g_istore_n (ls' := [some (.ref 139), some (.int a1), some (.int (z_tb q1.1)), some (.int (q1393.1 + (0 : Int32)))]) dX12_readLiteral_111 rfl (Nat.le_of_ble_eq_true rfl) rfl ?_
                      refine g_aload_n dX12_readLiteral_112 rfl rfl ?_
                      refine g_iconst (v := (1 : Int32)) dX12_readLiteral_113 (by decide) ?_
                      obtain ⟨q1396, e1397, h⟩ := z_bd h
                      refine g_callV (a := 137) (as := [.int (1 : Int32)]) (rest := []) (c := mX12_must) (k1 := 2) dX12_readLiteral_114 rfl rfl rfl sh_137 rfl rfl (Nat.le_of_ble_eq_true rfl) (Nat.le_of_ble_eq_true rfl) (by decide) ?_
                      refine A_X12_must e1397 ?_
                      show z_G none 5 mX12_readLiteral 117 [some (.ref 139), some (.int a1), some (.int (z_tb q1.1)), some (.int (q1393.1 + (0 : Int32)))] [] q1396.2 Q
                      refine g_iload_n dX12_readLiteral_117 rfl rfl ?_
                      cases h
                      exact g_iret dX12_readLiteral_118 rfl rfl hq
                    · replace h := z_ift (z_tbn.mp c1395) h
                      refine g_bipush (v := (6 : Int32)) dX12_readLiteral_104 (by decide) ?_
                      refine g_goto (t := 110) dX12_readLiteral_106 (by decide) ?_
                      refine g_iadd dX12_readLiteral_110 ?_
                      refine g_istore_n (ls' := [some (.ref 139), some (.int a1), some (.int (z_tb q1.1)), some (.int (q1393.1 + (6 : Int32)))]) dX12_readLiteral_111 rfl (Nat.le_of_ble_eq_true rfl) rfl ?_
                      refine g_aload_n dX12_readLiteral_112 rfl rfl ?_
                      refine g_iconst (v := (1 : Int32)) dX12_readLiteral_113 (by decide) ?_
                      obtain ⟨q1398, e1399, h⟩ := z_bd h
                      refine g_callV (a := 137) (as := [.int (1 : Int32)]) (rest := []) (c := mX12_must) (k1 := 2) dX12_readLiteral_114 rfl rfl rfl sh_137 rfl rfl (Nat.le_of_ble_eq_true rfl) (Nat.le_of_ble_eq_true rfl) (by decide) ?_
                      refine A_X12_must e1399 ?_
                      show z_G none 5 mX12_readLiteral 117 [some (.ref 139), some (.int a1), some (.int (z_tb q1.1)), some (.int (q1393.1 + (6 : Int32)))] [] q1398.2 Q
                      refine g_iload_n dX12_readLiteral_117 rfl rfl ?_
                      cases h
                      exact g_iret dX12_readLiteral_118 rfl rfl hq
                  · replace h := z_iff c1392 h
                    refine g_iconst (v := (0 : Int32)) dX12_readLiteral_92 (by decide) ?_
                    refine g_goto (t := 111) dX12_readLiteral_93 (by decide) ?_
                    refine g_istore_n (ls' := [some (.ref 139), some (.int a1), some (.int (z_tb q1.1)), some (.int (0 : Int32))]) dX12_readLiteral_111 rfl (Nat.le_of_ble_eq_true rfl) rfl ?_
                    refine g_aload_n dX12_readLiteral_112 rfl rfl ?_
                    refine g_iconst (v := (1 : Int32)) dX12_readLiteral_113 (by decide) ?_
                    obtain ⟨q1400, e1401, h⟩ := z_bd h
                    refine g_callV (a := 137) (as := [.int (1 : Int32)]) (rest := []) (c := mX12_must) (k1 := 2) dX12_readLiteral_114 rfl rfl rfl sh_137 rfl rfl (Nat.le_of_ble_eq_true rfl) (Nat.le_of_ble_eq_true rfl) (by decide) ?_
                    refine A_X12_must e1401 ?_
                    show z_G none 5 mX12_readLiteral 117 [some (.ref 139), some (.int a1), some (.int (z_tb q1.1)), some (.int (0 : Int32))] [] q1400.2 Q
                    refine g_iload_n dX12_readLiteral_117 rfl rfl ?_
                    cases h
                    exact g_iret dX12_readLiteral_118 rfl rfl hq
theorem dX12_readClause_0 : decode cX12_readClause 0 = .ok (.aload_n 0, 1) := by decide +kernel
theorem dX12_readClause_1 : decode cX12_readClause 1 = .ok (.iconst 3, 1) := by decide +kernel
theorem dX12_readClause_2 : decode cX12_readClause 2 = .ok (.bipush 8, 2) := by decide +kernel
theorem dX12_readClause_4 : decode cX12_readClause 4 = .ok (.invokevirtual 253, 3) := by decide +kernel
theorem dX12_readClause_7 : decode cX12_readClause 7 = .ok (.istore_n 1, 1) := by decide +kernel
theorem dX12_readClause_8 : decode cX12_readClause 8 = .ok (.iconst 0, 1) := by decide +kernel
theorem dX12_readClause_9 : decode cX12_readClause 9 = .ok (.istore_n 2, 1) := by decide +kernel
theorem dX12_readClause_10 : decode cX12_readClause 10 = .ok (.iconst 0, 1) := by decide +kernel
theorem dX12_readClause_11 : decode cX12_readClause 11 = .ok (.istore_n 3, 1) := by decide +kernel
theorem dX12_readClause_12 : decode cX12_readClause 12 = .ok (.aload_n 0, 1) := by decide +kernel
theorem dX12_readClause_13 : decode cX12_readClause 13 = .ok (.getfield 212, 3) := by decide +kernel
theorem dX12_readClause_16 : decode cX12_readClause 16 = .ok (.ifCond .ne 40, 3) := by decide +kernel
theorem dX12_readClause_19 : decode cX12_readClause 19 = .ok (.iload_n 2, 1) := by decide +kernel
theorem dX12_readClause_20 : decode cX12_readClause 20 = .ok (.ifCond .eq 11, 3) := by decide +kernel
theorem dX12_readClause_23 : decode cX12_readClause 23 = .ok (.aload_n 0, 1) := by decide +kernel
theorem dX12_readClause_24 : decode cX12_readClause 24 = .ok (.getfield 112, 3) := by decide +kernel
theorem dX12_readClause_27 : decode cX12_readClause 27 = .ok (.iconst 1, 1) := by decide +kernel
theorem dX12_readClause_28 : decode cX12_readClause 28 = .ok (.if_icmp .ne 28, 3) := by decide +kernel
theorem dX12_readClause_31 : decode cX12_readClause 31 = .ok (.iload_n 3, 1) := by decide +kernel
theorem dX12_readClause_32 : decode cX12_readClause 32 = .ok (.iconst 1, 1) := by decide +kernel
theorem dX12_readClause_33 : decode cX12_readClause 33 = .ok (.aload_n 0, 1) := by decide +kernel
theorem dX12_readClause_34 : decode cX12_readClause 34 = .ok (.iload_n 2, 1) := by decide +kernel
theorem dX12_readClause_35 : decode cX12_readClause 35 = .ok (.iconst 3, 1) := by decide +kernel
theorem dX12_readClause_36 : decode cX12_readClause 36 = .ok (.if_icmp .ne 7, 3) := by decide +kernel
theorem dX12_readClause_39 : decode cX12_readClause 39 = .ok (.iconst 1, 1) := by decide +kernel
theorem dX12_readClause_40 : decode cX12_readClause 40 = .ok (.goto 4, 3) := by decide +kernel
theorem dX12_readClause_43 : decode cX12_readClause 43 = .ok (.iconst 0, 1) := by decide +kernel
theorem dX12_readClause_44 : decode cX12_readClause 44 = .ok (.invokevirtual 276, 3) := by decide +kernel
theorem dX12_readClause_47 : decode cX12_readClause 47 = .ok (.ishl, 1) := by decide +kernel
theorem dX12_readClause_48 : decode cX12_readClause 48 = .ok (.ior, 1) := by decide +kernel
theorem dX12_readClause_49 : decode cX12_readClause 49 = .ok (.istore_n 3, 1) := by decide +kernel
theorem dX12_readClause_50 : decode cX12_readClause 50 = .ok (.iinc 2 1, 3) := by decide +kernel
theorem dX12_readClause_53 : decode cX12_readClause 53 = .ok (.goto (-41), 3) := by decide +kernel
theorem dX12_readClause_56 : decode cX12_readClause 56 = .ok (.aload_n 0, 1) := by decide +kernel
theorem dX12_readClause_57 : decode cX12_readClause 57 = .ok (.getfield 212, 3) := by decide +kernel
theorem dX12_readClause_60 : decode cX12_readClause 60 = .ok (.ifCond .le 4, 3) := by decide +kernel
theorem dX12_readClause_63 : decode cX12_readClause 63 = .ok (.return_, 1) := by decide +kernel
theorem dX12_readClause_64 : decode cX12_readClause 64 = .ok (.aload_n 0, 1) := by decide +kernel
theorem dX12_readClause_65 : decode cX12_readClause 65 = .ok (.getfield 35, 3) := by decide +kernel
theorem dX12_readClause_68 : decode cX12_readClause 68 = .ok (.sipush 1575, 3) := by decide +kernel
theorem dX12_readClause_71 : decode cX12_readClause 71 = .ok (.iload_n 1, 1) := by decide +kernel
theorem dX12_readClause_72 : decode cX12_readClause 72 = .ok (.iadd, 1) := by decide +kernel
theorem dX12_readClause_73 : decode cX12_readClause 73 = .ok (.iload_n 3, 1) := by decide +kernel
theorem dX12_readClause_74 : decode cX12_readClause 74 = .ok (.bipush 63, 2) := by decide +kernel
theorem dX12_readClause_76 : decode cX12_readClause 76 = .ok (.iand, 1) := by decide +kernel
theorem dX12_readClause_77 : decode cX12_readClause 77 = .ok (.iastore, 1) := by decide +kernel
theorem dX12_readClause_78 : decode cX12_readClause 78 = .ok (.aload_n 0, 1) := by decide +kernel
theorem dX12_readClause_79 : decode cX12_readClause 79 = .ok (.getfield 35, 3) := by decide +kernel
theorem dX12_readClause_82 : decode cX12_readClause 82 = .ok (.sipush 1583, 3) := by decide +kernel
theorem dX12_readClause_85 : decode cX12_readClause 85 = .ok (.iload_n 1, 1) := by decide +kernel
theorem dX12_readClause_86 : decode cX12_readClause 86 = .ok (.iadd, 1) := by decide +kernel
theorem dX12_readClause_87 : decode cX12_readClause 87 = .ok (.iload_n 3, 1) := by decide +kernel
theorem dX12_readClause_88 : decode cX12_readClause 88 = .ok (.bipush 6, 2) := by decide +kernel
theorem dX12_readClause_90 : decode cX12_readClause 90 = .ok (.ishr, 1) := by decide +kernel
theorem dX12_readClause_91 : decode cX12_readClause 91 = .ok (.iastore, 1) := by decide +kernel
theorem dX12_readClause_92 : decode cX12_readClause 92 = .ok (.aload_n 0, 1) := by decide +kernel
theorem dX12_readClause_93 : decode cX12_readClause 93 = .ok (.getfield 35, 3) := by decide +kernel
theorem dX12_readClause_96 : decode cX12_readClause 96 = .ok (.sipush 1503, 3) := by decide +kernel
theorem dX12_readClause_99 : decode cX12_readClause 99 = .ok (.dup2, 1) := by decide +kernel
theorem dX12_readClause_100 : decode cX12_readClause 100 = .ok (.iaload, 1) := by decide +kernel
theorem dX12_readClause_101 : decode cX12_readClause 101 = .ok (.iconst 1, 1) := by decide +kernel
theorem dX12_readClause_102 : decode cX12_readClause 102 = .ok (.iadd, 1) := by decide +kernel
theorem dX12_readClause_103 : decode cX12_readClause 103 = .ok (.iastore, 1) := by decide +kernel
theorem dX12_readClause_104 : decode cX12_readClause 104 = .ok (.return_, 1) := by decide +kernel
def L_X12_readClause (w : Nat) : Nat → z_Mem → Int32 → Int32 → Int32 → Option (Unit × z_Mem)
  | 0, _, _, _, _ => none
  | c + 1, M, x1, x2, x3 =>
    if (M.1 137 12) = (0 : Int32) then
    if x2 = (0 : Int32) then
    if x2 = (3 : Int32) then
    (F_X12_readLiteral w M (1 : Int32)).bind fun q9 =>
    L_X12_readClause w c q9.2 x1 (x2 + (1 : Int32)) (x3 ||| ((1 : Int32) <<< (q9.1 &&& 31)))
    else
    (F_X12_readLiteral w M (0 : Int32)).bind fun q7 =>
    L_X12_readClause w c q7.2 x1 (x2 + (1 : Int32)) (x3 ||| ((1 : Int32) <<< (q7.1 &&& 31)))
    else
    if (M.1 137 14) = (1 : Int32) then
    if x2 = (3 : Int32) then
    (F_X12_readLiteral w M (1 : Int32)).bind fun q18 =>
    L_X12_readClause w c q18.2 x1 (x2 + (1 : Int32)) (x3 ||| ((1 : Int32) <<< (q18.1 &&& 31)))
    else
    (F_X12_readLiteral w M (0 : Int32)).bind fun q16 =>
    L_X12_readClause w c q16.2 x1 (x2 + (1 : Int32)) (x3 ||| ((1 : Int32) <<< (q16.1 &&& 31)))
    else
    if (M.1 137 12) ≤ (0 : Int32) then
    if ((1575 : Int32) + x1) < 0 ∨ 1875 ≤ ((1575 : Int32) + x1).toNatClampNeg then none else
    if ((1583 : Int32) + x1) < 0 ∨ 1875 ≤ ((1583 : Int32) + x1).toNatClampNeg then none else
    some ((), (z_wI (z_wI (z_wI M 142 (((1575 : Int32) + x1).toNatClampNeg) (x3 &&& (63 : Int32))) 142 (((1583 : Int32) + x1).toNatClampNeg) (x3 >>> ((6 : Int32) &&& 31))) 142 1503 (((z_wI (z_wI M 142 (((1575 : Int32) + x1).toNatClampNeg) (x3 &&& (63 : Int32))) 142 (((1583 : Int32) + x1).toNatClampNeg) (x3 >>> ((6 : Int32) &&& 31))).1 142 1503) + (1 : Int32))))
    else
    some ((), M)
    else
    if (M.1 137 12) ≤ (0 : Int32) then
    if ((1575 : Int32) + x1) < 0 ∨ 1875 ≤ ((1575 : Int32) + x1).toNatClampNeg then none else
    if ((1583 : Int32) + x1) < 0 ∨ 1875 ≤ ((1583 : Int32) + x1).toNatClampNeg then none else
    some ((), (z_wI (z_wI (z_wI M 142 (((1575 : Int32) + x1).toNatClampNeg) (x3 &&& (63 : Int32))) 142 (((1583 : Int32) + x1).toNatClampNeg) (x3 >>> ((6 : Int32) &&& 31))) 142 1503 (((z_wI (z_wI M 142 (((1575 : Int32) + x1).toNatClampNeg) (x3 &&& (63 : Int32))) 142 (((1583 : Int32) + x1).toNatClampNeg) (x3 >>> ((6 : Int32) &&& 31))).1 142 1503) + (1 : Int32))))
    else
    some ((), M)
set_option maxHeartbeats 4000000 in
theorem AL_X12_readClause {w : Nat} : ∀ (c : Nat), (∀ (M : z_Mem) (x1 : Int32) (x2 : Int32) (x3 : Int32) (r : Unit) (M' : z_Mem) (Q : Option Value → z_Mem → Prop), L_X12_readClause w c M x1 x2 x3 = some (r, M') → Q none M' → z_G none 6 mX12_readClause 12 [some (.ref 139), some (.int x1), some (.int x2), some (.int x3)] [] M Q) := by
  intro c
  induction c with
  | zero => exact (fun M x1 x2 x3 r M' Q h hq => by rw [L_X12_readClause] at h; cases h)
  | succ c ih =>
    intro M x1 x2 x3 r M' Q h hq
    rw [L_X12_readClause] at h
    refine g_aload_n dX12_readClause_12 rfl rfl ?_
    refine g_get (a := 137) (v := .int (M.1 137 12)) dX12_readClause_13 f_12_212 sh_137 rfl rfl ?_
    refine g_if_ne (t := 56) dX12_readClause_16 (by decide) (fun c1 => ?_) (fun c1 => ?_)
    · replace h := z_iff c1 h
      refine g_aload_n dX12_readClause_56 rfl rfl ?_
      refine g_get (a := 137) (v := .int (M.1 137 12)) dX12_readClause_57 f_12_212 sh_137 rfl rfl ?_
      refine g_if_le (t := 64) dX12_readClause_60 (by decide) (fun c2 => ?_) (fun c2 => ?_)
      · replace h := z_ift c2 h
        refine g_aload_n dX12_readClause_64 rfl rfl ?_
        refine g_get (a := 137) (v := .ref 144) dX12_readClause_65 f_12_35 sh_137 rfl rfl ?_
        refine g_sipush (v := (1575 : Int32)) dX12_readClause_68 (by decide) ?_
        refine g_iload_n dX12_readClause_71 rfl rfl ?_
        refine g_iadd dX12_readClause_72 ?_
        refine g_iload_n dX12_readClause_73 rfl rfl ?_
        refine g_bipush (v := (63 : Int32)) dX12_readClause_74 (by decide) ?_
        refine g_iand dX12_readClause_76 ?_
        by_cases g3 : ((1575 : Int32) + x1) < 0 ∨ 1875 ≤ ((1575 : Int32) + x1).toNatClampNeg
        · rw [if_pos g3] at h; cases h
        replace h := z_iff g3 h
        refine g_iast (a := 142) dX12_readClause_77 sh_142 g3 ?_
        refine g_aload_n dX12_readClause_78 rfl rfl ?_
        refine g_get (a := 137) (v := .ref 144) dX12_readClause_79 f_12_35 sh_137 rfl rfl ?_
        refine g_sipush (v := (1583 : Int32)) dX12_readClause_82 (by decide) ?_
        refine g_iload_n dX12_readClause_85 rfl rfl ?_
        refine g_iadd dX12_readClause_86 ?_
        refine g_iload_n dX12_readClause_87 rfl rfl ?_
        refine g_bipush (v := (6 : Int32)) dX12_readClause_88 (by decide) ?_
        refine g_ishr dX12_readClause_90 ?_
        by_cases g4 : ((1583 : Int32) + x1) < 0 ∨ 1875 ≤ ((1583 : Int32) + x1).toNatClampNeg
        · rw [if_pos g4] at h; cases h
        replace h := z_iff g4 h
        refine g_iast (a := 142) dX12_readClause_91 sh_142 g4 ?_
        refine g_aload_n dX12_readClause_92 rfl rfl ?_
        refine g_get (a := 137) (v := .ref 144) dX12_readClause_93 f_12_35 sh_137 rfl rfl ?_
        refine g_sipush (v := (1503 : Int32)) dX12_readClause_96 (by decide) ?_
        refine g_dup2 dX12_readClause_99 rfl rfl ?_
        refine g_ialN (a := 142) (j := 1503) (v := (z_wI (z_wI M 142 (((1575 : Int32) + x1).toNatClampNeg) (x3 &&& (63 : Int32))) 142 (((1583 : Int32) + x1).toNatClampNeg) (x3 >>> ((6 : Int32) &&& 31))).1 142 1503) dX12_readClause_100 sh_142 rfl (by decide) (by simp [z_wI, z_wL, z_wLs, upd, vp_updL]) ?_
        refine g_iconst (v := (1 : Int32)) dX12_readClause_101 (by decide) ?_
        refine g_iadd dX12_readClause_102 ?_
        refine g_iasN (a := 142) (j := 1503) dX12_readClause_103 sh_142 rfl (by decide) ?_
        cases h
        exact g_vret dX12_readClause_104 rfl hq
      · replace h := z_iff c2 h
        cases h
        exact g_vret dX12_readClause_63 rfl hq
    · replace h := z_ift c1 h
      refine g_iload_n dX12_readClause_19 rfl rfl ?_
      refine g_if_eq (t := 31) dX12_readClause_20 (by decide) (fun c5 => ?_) (fun c5 => ?_)
      · replace h := z_ift c5 h
        refine g_iload_n dX12_readClause_31 rfl rfl ?_
        refine g_iconst (v := (1 : Int32)) dX12_readClause_32 (by decide) ?_
        refine g_aload_n dX12_readClause_33 rfl rfl ?_
        refine g_iload_n dX12_readClause_34 rfl rfl ?_
        refine g_iconst (v := (3 : Int32)) dX12_readClause_35 (by decide) ?_
        refine g_ic_ne (t := 43) dX12_readClause_36 (by decide) (fun c6 => ?_) (fun c6 => ?_)
        · replace h := z_iff c6 h
          refine g_iconst (v := (0 : Int32)) dX12_readClause_43 (by decide) ?_
          obtain ⟨q7, e8, h⟩ := z_bd h
          refine g_callV (a := 137) (as := [.int (0 : Int32)]) (rest := [.int (1 : Int32), .int x3]) (c := mX12_readLiteral) (k1 := 5) dX12_readClause_44 rfl rfl rfl sh_137 rfl rfl (Nat.le_of_ble_eq_true rfl) (Nat.le_of_ble_eq_true rfl) (by decide) ?_
          refine A_X12_readLiteral e8 ?_
          show z_G none 6 mX12_readClause 47 [some (.ref 139), some (.int x1), some (.int x2), some (.int x3)] [.int q7.1, .int (1 : Int32), .int x3] q7.2 Q
          refine g_ishl dX12_readClause_47 ?_
          refine g_ior dX12_readClause_48 ?_
          refine g_istore_n (ls' := [some (.ref 139), some (.int x1), some (.int x2), some (.int (x3 ||| ((1 : Int32) <<< (q7.1 &&& 31))))]) dX12_readClause_49 rfl (Nat.le_of_ble_eq_true rfl) rfl ?_
          refine g_iinc (v := x2 + (1 : Int32)) (ls' := [some (.ref 139), some (.int x1), some (.int (x2 + (1 : Int32))), some (.int (x3 ||| ((1 : Int32) <<< (q7.1 &&& 31))))]) dX12_readClause_50 rfl rfl rfl ?_
          refine g_goto (t := 12) dX12_readClause_53 (by decide) ?_
          exact g_sub (z_sub_s (z_sub_s (z_sub_s (z_sub_s z_sub_nil)))) (ih _ _ _ _ _ _ _ h hq)
        · replace h := z_ift c6 h
          refine g_iconst (v := (1 : Int32)) dX12_readClause_39 (by decide) ?_
          refine g_goto (t := 44) dX12_readClause_40 (by decide) ?_
          obtain ⟨q9, e10, h⟩ := z_bd h
          refine g_callV (a := 137) (as := [.int (1 : Int32)]) (rest := [.int (1 : Int32), .int x3]) (c := mX12_readLiteral) (k1 := 5) dX12_readClause_44 rfl rfl rfl sh_137 rfl rfl (Nat.le_of_ble_eq_true rfl) (Nat.le_of_ble_eq_true rfl) (by decide) ?_
          refine A_X12_readLiteral e10 ?_
          show z_G none 6 mX12_readClause 47 [some (.ref 139), some (.int x1), some (.int x2), some (.int x3)] [.int q9.1, .int (1 : Int32), .int x3] q9.2 Q
          refine g_ishl dX12_readClause_47 ?_
          refine g_ior dX12_readClause_48 ?_
          refine g_istore_n (ls' := [some (.ref 139), some (.int x1), some (.int x2), some (.int (x3 ||| ((1 : Int32) <<< (q9.1 &&& 31))))]) dX12_readClause_49 rfl (Nat.le_of_ble_eq_true rfl) rfl ?_
          refine g_iinc (v := x2 + (1 : Int32)) (ls' := [some (.ref 139), some (.int x1), some (.int (x2 + (1 : Int32))), some (.int (x3 ||| ((1 : Int32) <<< (q9.1 &&& 31))))]) dX12_readClause_50 rfl rfl rfl ?_
          refine g_goto (t := 12) dX12_readClause_53 (by decide) ?_
          exact g_sub (z_sub_s (z_sub_s (z_sub_s (z_sub_s z_sub_nil)))) (ih _ _ _ _ _ _ _ h hq)
      · replace h := z_iff c5 h
        refine g_aload_n dX12_readClause_23 rfl rfl ?_
        refine g_get (a := 137) (v := .int (M.1 137 14)) dX12_readClause_24 f_12_112 sh_137 rfl rfl ?_
        refine g_iconst (v := (1 : Int32)) dX12_readClause_27 (by decide) ?_
        refine g_ic_ne (t := 56) dX12_readClause_28 (by decide) (fun c11 => ?_) (fun c11 => ?_)
        · replace h := z_iff c11 h
          refine g_aload_n dX12_readClause_56 rfl rfl ?_
          refine g_get (a := 137) (v := .int (M.1 137 12)) dX12_readClause_57 f_12_212 sh_137 rfl rfl ?_
          refine g_if_le (t := 64) dX12_readClause_60 (by decide) (fun c12 => ?_) (fun c12 => ?_)
          · replace h := z_ift c12 h
            refine g_aload_n dX12_readClause_64 rfl rfl ?_
            refine g_get (a := 137) (v := .ref 144) dX12_readClause_65 f_12_35 sh_137 rfl rfl ?_
            refine g_sipush (v := (1575 : Int32)) dX12_readClause_68 (by decide) ?_
            refine g_iload_n dX12_readClause_71 rfl rfl ?_
            refine g_iadd dX12_readClause_72 ?_
            refine g_iload_n dX12_readClause_73 rfl rfl ?_
            refine g_bipush (v := (63 : Int32)) dX12_readClause_74 (by decide) ?_
            refine g_iand dX12_readClause_76 ?_
            by_cases g13 : ((1575 : Int32) + x1) < 0 ∨ 1875 ≤ ((1575 : Int32) + x1).toNatClampNeg
            · rw [if_pos g13] at h; cases h
            replace h := z_iff g13 h
            refine g_iast (a := 142) dX12_readClause_77 sh_142 g13 ?_
            refine g_aload_n dX12_readClause_78 rfl rfl ?_
            refine g_get (a := 137) (v := .ref 144) dX12_readClause_79 f_12_35 sh_137 rfl rfl ?_
            refine g_sipush (v := (1583 : Int32)) dX12_readClause_82 (by decide) ?_
            refine g_iload_n dX12_readClause_85 rfl rfl ?_
            refine g_iadd dX12_readClause_86 ?_
            refine g_iload_n dX12_readClause_87 rfl rfl ?_
            refine g_bipush (v := (6 : Int32)) dX12_readClause_88 (by decide) ?_
            refine g_ishr dX12_readClause_90 ?_
            by_cases g14 : ((1583 : Int32) + x1) < 0 ∨ 1875 ≤ ((1583 : Int32) + x1).toNatClampNeg
            · rw [if_pos g14] at h; cases h
            replace h := z_iff g14 h
            refine g_iast (a := 142) dX12_readClause_91 sh_142 g14 ?_
            refine g_aload_n dX12_readClause_92 rfl rfl ?_
            refine g_get (a := 137) (v := .ref 144) dX12_readClause_93 f_12_35 sh_137 rfl rfl ?_
            refine g_sipush (v := (1503 : Int32)) dX12_readClause_96 (by decide) ?_
            refine g_dup2 dX12_readClause_99 rfl rfl ?_
            refine g_ialN (a := 142) (j := 1503) (v := (z_wI (z_wI M 142 (((1575 : Int32) + x1).toNatClampNeg) (x3 &&& (63 : Int32))) 142 (((1583 : Int32) + x1).toNatClampNeg) (x3 >>> ((6 : Int32) &&& 31))).1 142 1503) dX12_readClause_100 sh_142 rfl (by decide) (by simp [z_wI, z_wL, z_wLs, upd, vp_updL]) ?_
            refine g_iconst (v := (1 : Int32)) dX12_readClause_101 (by decide) ?_
            refine g_iadd dX12_readClause_102 ?_
            refine g_iasN (a := 142) (j := 1503) dX12_readClause_103 sh_142 rfl (by decide) ?_
            cases h
            exact g_vret dX12_readClause_104 rfl hq
          · replace h := z_iff c12 h
            cases h
            exact g_vret dX12_readClause_63 rfl hq
        · replace h := z_ift c11 h
          refine g_iload_n dX12_readClause_31 rfl rfl ?_
          refine g_iconst (v := (1 : Int32)) dX12_readClause_32 (by decide) ?_
          refine g_aload_n dX12_readClause_33 rfl rfl ?_
          refine g_iload_n dX12_readClause_34 rfl rfl ?_
          refine g_iconst (v := (3 : Int32)) dX12_readClause_35 (by decide) ?_
          refine g_ic_ne (t := 43) dX12_readClause_36 (by decide) (fun c15 => ?_) (fun c15 => ?_)
          · replace h := z_iff c15 h
            refine g_iconst (v := (0 : Int32)) dX12_readClause_43 (by decide) ?_
            obtain ⟨q16, e17, h⟩ := z_bd h
            refine g_callV (a := 137) (as := [.int (0 : Int32)]) (rest := [.int (1 : Int32), .int x3]) (c := mX12_readLiteral) (k1 := 5) dX12_readClause_44 rfl rfl rfl sh_137 rfl rfl (Nat.le_of_ble_eq_true rfl) (Nat.le_of_ble_eq_true rfl) (by decide) ?_
            refine A_X12_readLiteral e17 ?_
            show z_G none 6 mX12_readClause 47 [some (.ref 139), some (.int x1), some (.int x2), some (.int x3)] [.int q16.1, .int (1 : Int32), .int x3] q16.2 Q
            refine g_ishl dX12_readClause_47 ?_
            refine g_ior dX12_readClause_48 ?_
            refine g_istore_n (ls' := [some (.ref 139), some (.int x1), some (.int x2), some (.int (x3 ||| ((1 : Int32) <<< (q16.1 &&& 31))))]) dX12_readClause_49 rfl (Nat.le_of_ble_eq_true rfl) rfl ?_
            refine g_iinc (v := x2 + (1 : Int32)) (ls' := [some (.ref 139), some (.int x1), some (.int (x2 + (1 : Int32))), some (.int (x3 ||| ((1 : Int32) <<< (q16.1 &&& 31))))]) dX12_readClause_50 rfl rfl rfl ?_
            refine g_goto (t := 12) dX12_readClause_53 (by decide) ?_
            exact g_sub (z_sub_s (z_sub_s (z_sub_s (z_sub_s z_sub_nil)))) (ih _ _ _ _ _ _ _ h hq)
          · replace h := z_ift c15 h
            refine g_iconst (v := (1 : Int32)) dX12_readClause_39 (by decide) ?_
            refine g_goto (t := 44) dX12_readClause_40 (by decide) ?_
            obtain ⟨q18, e19, h⟩ := z_bd h
            refine g_callV (a := 137) (as := [.int (1 : Int32)]) (rest := [.int (1 : Int32), .int x3]) (c := mX12_readLiteral) (k1 := 5) dX12_readClause_44 rfl rfl rfl sh_137 rfl rfl (Nat.le_of_ble_eq_true rfl) (Nat.le_of_ble_eq_true rfl) (by decide) ?_
            refine A_X12_readLiteral e19 ?_
            show z_G none 6 mX12_readClause 47 [some (.ref 139), some (.int x1), some (.int x2), some (.int x3)] [.int q18.1, .int (1 : Int32), .int x3] q18.2 Q
            refine g_ishl dX12_readClause_47 ?_
            refine g_ior dX12_readClause_48 ?_
            refine g_istore_n (ls' := [some (.ref 139), some (.int x1), some (.int x2), some (.int (x3 ||| ((1 : Int32) <<< (q18.1 &&& 31))))]) dX12_readClause_49 rfl (Nat.le_of_ble_eq_true rfl) rfl ?_
            refine g_iinc (v := x2 + (1 : Int32)) (ls' := [some (.ref 139), some (.int x1), some (.int (x2 + (1 : Int32))), some (.int (x3 ||| ((1 : Int32) <<< (q18.1 &&& 31))))]) dX12_readClause_50 rfl rfl rfl ?_
            refine g_goto (t := 12) dX12_readClause_53 (by decide) ?_
            exact g_sub (z_sub_s (z_sub_s (z_sub_s (z_sub_s z_sub_nil)))) (ih _ _ _ _ _ _ _ h hq)
def F_X12_readClause (w : Nat) (M : z_Mem) : Option (Unit × z_Mem) :=
  (F_X12_another w M (3 : Int32) (8 : Int32)).bind fun q20 =>
  L_X12_readClause w w q20.2 q20.1 (0 : Int32) (0 : Int32)
set_option maxHeartbeats 4000000 in
theorem A_X12_readClause {w : Nat} {M : z_Mem} {r : Unit} {M' : z_Mem} {Q : Option Value → z_Mem → Prop} (h : F_X12_readClause w M = some (r, M')) (hq : Q none M') : z_Cl 6 mX12_readClause [.ref 139] M Q := by
  refine g_in (ls := [some (.ref 139), none, none, none]) rfl ?_
  unfold F_X12_readClause at h
  refine g_aload_n dX12_readClause_0 rfl rfl ?_
  refine g_iconst (v := (3 : Int32)) dX12_readClause_1 (by decide) ?_
  refine g_bipush (v := (8 : Int32)) dX12_readClause_2 (by decide) ?_
  obtain ⟨q20, e21, h⟩ := z_bd h
  refine g_callV (a := 137) (as := [.int (3 : Int32), .int (8 : Int32)]) (rest := []) (c := mX12_another) (k1 := 3) dX12_readClause_4 rfl rfl rfl sh_137 rfl rfl (Nat.le_of_ble_eq_true rfl) (Nat.le_of_ble_eq_true rfl) (by decide) ?_
  refine A_X12_another e21 ?_
  show z_G none 6 mX12_readClause 7 [some (.ref 139), none, none, none] [.int q20.1] q20.2 Q
  refine g_istore_n (ls' := [some (.ref 139), some (.int q20.1), none, none]) dX12_readClause_7 rfl (Nat.le_of_ble_eq_true rfl) rfl ?_
  refine g_iconst (v := (0 : Int32)) dX12_readClause_8 (by decide) ?_
  refine g_istore_n (ls' := [some (.ref 139), some (.int q20.1), some (.int (0 : Int32)), none]) dX12_readClause_9 rfl (Nat.le_of_ble_eq_true rfl) rfl ?_
  refine g_iconst (v := (0 : Int32)) dX12_readClause_10 (by decide) ?_
  refine g_istore_n (ls' := [some (.ref 139), some (.int q20.1), some (.int (0 : Int32)), some (.int (0 : Int32))]) dX12_readClause_11 rfl (Nat.le_of_ble_eq_true rfl) rfl ?_
  exact g_sub (z_sub_s (z_sub_s (z_sub_s (z_sub_s z_sub_nil)))) ((AL_X12_readClause (w := w) w) _ _ _ _ _ _ _ h hq)
theorem dX12_readWitness_0 : decode cX12_readWitness 0 = .ok (.aload_n 0, 1) := by decide +kernel
theorem dX12_readWitness_1 : decode cX12_readWitness 1 = .ok (.iconst 4, 1) := by decide +kernel
theorem dX12_readWitness_2 : decode cX12_readWitness 2 = .ok (.bipush 6, 2) := by decide +kernel
theorem dX12_readWitness_4 : decode cX12_readWitness 4 = .ok (.invokevirtual 253, 3) := by decide +kernel
theorem dX12_readWitness_7 : decode cX12_readWitness 7 = .ok (.istore_n 1, 1) := by decide +kernel
theorem dX12_readWitness_8 : decode cX12_readWitness 8 = .ok (.aload_n 0, 1) := by decide +kernel
theorem dX12_readWitness_9 : decode cX12_readWitness 9 = .ok (.iconst 0, 1) := by decide +kernel
theorem dX12_readWitness_10 : decode cX12_readWitness 10 = .ok (.bipush 16, 2) := by decide +kernel
theorem dX12_readWitness_12 : decode cX12_readWitness 12 = .ok (.invokevirtual 232, 3) := by decide +kernel
theorem dX12_readWitness_15 : decode cX12_readWitness 15 = .ok (.istore_n 2, 1) := by decide +kernel
theorem dX12_readWitness_16 : decode cX12_readWitness 16 = .ok (.aload_n 0, 1) := by decide +kernel
theorem dX12_readWitness_17 : decode cX12_readWitness 17 = .ok (.iconst 0, 1) := by decide +kernel
theorem dX12_readWitness_18 : decode cX12_readWitness 18 = .ok (.bipush 16, 2) := by decide +kernel
theorem dX12_readWitness_20 : decode cX12_readWitness 20 = .ok (.invokevirtual 232, 3) := by decide +kernel
theorem dX12_readWitness_23 : decode cX12_readWitness 23 = .ok (.istore_n 3, 1) := by decide +kernel
theorem dX12_readWitness_24 : decode cX12_readWitness 24 = .ok (.aload_n 0, 1) := by decide +kernel
theorem dX12_readWitness_25 : decode cX12_readWitness 25 = .ok (.getfield 212, 3) := by decide +kernel
theorem dX12_readWitness_28 : decode cX12_readWitness 28 = .ok (.ifCond .le 4, 3) := by decide +kernel
theorem dX12_readWitness_31 : decode cX12_readWitness 31 = .ok (.return_, 1) := by decide +kernel
theorem dX12_readWitness_32 : decode cX12_readWitness 32 = .ok (.aload_n 0, 1) := by decide +kernel
theorem dX12_readWitness_33 : decode cX12_readWitness 33 = .ok (.getfield 35, 3) := by decide +kernel
theorem dX12_readWitness_36 : decode cX12_readWitness 36 = .ok (.sipush 1591, 3) := by decide +kernel
theorem dX12_readWitness_39 : decode cX12_readWitness 39 = .ok (.iload_n 1, 1) := by decide +kernel
theorem dX12_readWitness_40 : decode cX12_readWitness 40 = .ok (.iadd, 1) := by decide +kernel
theorem dX12_readWitness_41 : decode cX12_readWitness 41 = .ok (.iload_n 2, 1) := by decide +kernel
theorem dX12_readWitness_42 : decode cX12_readWitness 42 = .ok (.iastore, 1) := by decide +kernel
theorem dX12_readWitness_43 : decode cX12_readWitness 43 = .ok (.aload_n 0, 1) := by decide +kernel
theorem dX12_readWitness_44 : decode cX12_readWitness 44 = .ok (.getfield 35, 3) := by decide +kernel
theorem dX12_readWitness_47 : decode cX12_readWitness 47 = .ok (.sipush 1597, 3) := by decide +kernel
theorem dX12_readWitness_50 : decode cX12_readWitness 50 = .ok (.iload_n 1, 1) := by decide +kernel
theorem dX12_readWitness_51 : decode cX12_readWitness 51 = .ok (.iadd, 1) := by decide +kernel
theorem dX12_readWitness_52 : decode cX12_readWitness 52 = .ok (.iload_n 3, 1) := by decide +kernel
theorem dX12_readWitness_53 : decode cX12_readWitness 53 = .ok (.iastore, 1) := by decide +kernel
theorem dX12_readWitness_54 : decode cX12_readWitness 54 = .ok (.aload_n 0, 1) := by decide +kernel
theorem dX12_readWitness_55 : decode cX12_readWitness 55 = .ok (.getfield 35, 3) := by decide +kernel
theorem dX12_readWitness_58 : decode cX12_readWitness 58 = .ok (.sipush 1504, 3) := by decide +kernel
theorem dX12_readWitness_61 : decode cX12_readWitness 61 = .ok (.dup2, 1) := by decide +kernel
theorem dX12_readWitness_62 : decode cX12_readWitness 62 = .ok (.iaload, 1) := by decide +kernel
theorem dX12_readWitness_63 : decode cX12_readWitness 63 = .ok (.iconst 1, 1) := by decide +kernel
theorem dX12_readWitness_64 : decode cX12_readWitness 64 = .ok (.iadd, 1) := by decide +kernel
theorem dX12_readWitness_65 : decode cX12_readWitness 65 = .ok (.iastore, 1) := by decide +kernel
theorem dX12_readWitness_66 : decode cX12_readWitness 66 = .ok (.return_, 1) := by decide +kernel
def F_X12_readWitness (w : Nat) (M : z_Mem) : Option (Unit × z_Mem) :=
  (F_X12_another w M (4 : Int32) (6 : Int32)).bind fun q1 =>
  (F_X12_count w q1.2 (0 : Int32) (16 : Int32)).bind fun q3 =>
  (F_X12_count w q3.2 (0 : Int32) (16 : Int32)).bind fun q5 =>
  if (q5.2.1 137 12) ≤ (0 : Int32) then
  if ((1591 : Int32) + q1.1) < 0 ∨ 1875 ≤ ((1591 : Int32) + q1.1).toNatClampNeg then none else
  if ((1597 : Int32) + q1.1) < 0 ∨ 1875 ≤ ((1597 : Int32) + q1.1).toNatClampNeg then none else
  some ((), (z_wI (z_wI (z_wI q5.2 142 (((1591 : Int32) + q1.1).toNatClampNeg) q3.1) 142 (((1597 : Int32) + q1.1).toNatClampNeg) q5.1) 142 1504 (((z_wI (z_wI q5.2 142 (((1591 : Int32) + q1.1).toNatClampNeg) q3.1) 142 (((1597 : Int32) + q1.1).toNatClampNeg) q5.1).1 142 1504) + (1 : Int32))))
  else
  some ((), q5.2)
set_option maxHeartbeats 4000000 in
theorem A_X12_readWitness {w : Nat} {M : z_Mem} {r : Unit} {M' : z_Mem} {Q : Option Value → z_Mem → Prop} (h : F_X12_readWitness w M = some (r, M')) (hq : Q none M') : z_Cl 4 mX12_readWitness [.ref 139] M Q := by
  refine g_in (ls := [some (.ref 139), none, none, none]) rfl ?_
  unfold F_X12_readWitness at h
  refine g_aload_n dX12_readWitness_0 rfl rfl ?_
  refine g_iconst (v := (4 : Int32)) dX12_readWitness_1 (by decide) ?_
  refine g_bipush (v := (6 : Int32)) dX12_readWitness_2 (by decide) ?_
  obtain ⟨q1, e2, h⟩ := z_bd h
  refine g_callV (a := 137) (as := [.int (4 : Int32), .int (6 : Int32)]) (rest := []) (c := mX12_another) (k1 := 3) dX12_readWitness_4 rfl rfl rfl sh_137 rfl rfl (Nat.le_of_ble_eq_true rfl) (Nat.le_of_ble_eq_true rfl) (by decide) ?_
  refine A_X12_another e2 ?_
  show z_G none 4 mX12_readWitness 7 [some (.ref 139), none, none, none] [.int q1.1] q1.2 Q
  refine g_istore_n (ls' := [some (.ref 139), some (.int q1.1), none, none]) dX12_readWitness_7 rfl (Nat.le_of_ble_eq_true rfl) rfl ?_
  refine g_aload_n dX12_readWitness_8 rfl rfl ?_
  refine g_iconst (v := (0 : Int32)) dX12_readWitness_9 (by decide) ?_
  refine g_bipush (v := (16 : Int32)) dX12_readWitness_10 (by decide) ?_
  obtain ⟨q3, e4, h⟩ := z_bd h
  refine g_callV (a := 137) (as := [.int (0 : Int32), .int (16 : Int32)]) (rest := []) (c := mX12_count) (k1 := 2) dX12_readWitness_12 rfl rfl rfl sh_137 rfl rfl (Nat.le_of_ble_eq_true rfl) (Nat.le_of_ble_eq_true rfl) (by decide) ?_
  refine A_X12_count e4 ?_
  show z_G none 4 mX12_readWitness 15 [some (.ref 139), some (.int q1.1), none, none] [.int q3.1] q3.2 Q
  refine g_istore_n (ls' := [some (.ref 139), some (.int q1.1), some (.int q3.1), none]) dX12_readWitness_15 rfl (Nat.le_of_ble_eq_true rfl) rfl ?_
  refine g_aload_n dX12_readWitness_16 rfl rfl ?_
  refine g_iconst (v := (0 : Int32)) dX12_readWitness_17 (by decide) ?_
  refine g_bipush (v := (16 : Int32)) dX12_readWitness_18 (by decide) ?_
  obtain ⟨q5, e6, h⟩ := z_bd h
  refine g_callV (a := 137) (as := [.int (0 : Int32), .int (16 : Int32)]) (rest := []) (c := mX12_count) (k1 := 2) dX12_readWitness_20 rfl rfl rfl sh_137 rfl rfl (Nat.le_of_ble_eq_true rfl) (Nat.le_of_ble_eq_true rfl) (by decide) ?_
  refine A_X12_count e6 ?_
  show z_G none 4 mX12_readWitness 23 [some (.ref 139), some (.int q1.1), some (.int q3.1), none] [.int q5.1] q5.2 Q
  refine g_istore_n (ls' := [some (.ref 139), some (.int q1.1), some (.int q3.1), some (.int q5.1)]) dX12_readWitness_23 rfl (Nat.le_of_ble_eq_true rfl) rfl ?_
  refine g_aload_n dX12_readWitness_24 rfl rfl ?_
  refine g_get (a := 137) (v := .int (q5.2.1 137 12)) dX12_readWitness_25 f_12_212 sh_137 rfl rfl ?_
  refine g_if_le (t := 32) dX12_readWitness_28 (by decide) (fun c7 => ?_) (fun c7 => ?_)
  · replace h := z_ift c7 h
    refine g_aload_n dX12_readWitness_32 rfl rfl ?_
    refine g_get (a := 137) (v := .ref 144) dX12_readWitness_33 f_12_35 sh_137 rfl rfl ?_
    refine g_sipush (v := (1591 : Int32)) dX12_readWitness_36 (by decide) ?_
    refine g_iload_n dX12_readWitness_39 rfl rfl ?_
    refine g_iadd dX12_readWitness_40 ?_
    refine g_iload_n dX12_readWitness_41 rfl rfl ?_
    by_cases g8 : ((1591 : Int32) + q1.1) < 0 ∨ 1875 ≤ ((1591 : Int32) + q1.1).toNatClampNeg
    · rw [if_pos g8] at h; cases h
    replace h := z_iff g8 h
    refine g_iast (a := 142) dX12_readWitness_42 sh_142 g8 ?_
    refine g_aload_n dX12_readWitness_43 rfl rfl ?_
    refine g_get (a := 137) (v := .ref 144) dX12_readWitness_44 f_12_35 sh_137 rfl rfl ?_
    refine g_sipush (v := (1597 : Int32)) dX12_readWitness_47 (by decide) ?_
    refine g_iload_n dX12_readWitness_50 rfl rfl ?_
    refine g_iadd dX12_readWitness_51 ?_
    refine g_iload_n dX12_readWitness_52 rfl rfl ?_
    by_cases g9 : ((1597 : Int32) + q1.1) < 0 ∨ 1875 ≤ ((1597 : Int32) + q1.1).toNatClampNeg
    · rw [if_pos g9] at h; cases h
    replace h := z_iff g9 h
    refine g_iast (a := 142) dX12_readWitness_53 sh_142 g9 ?_
    refine g_aload_n dX12_readWitness_54 rfl rfl ?_
    refine g_get (a := 137) (v := .ref 144) dX12_readWitness_55 f_12_35 sh_137 rfl rfl ?_
    refine g_sipush (v := (1504 : Int32)) dX12_readWitness_58 (by decide) ?_
    refine g_dup2 dX12_readWitness_61 rfl rfl ?_
    refine g_ialN (a := 142) (j := 1504) (v := (z_wI (z_wI q5.2 142 (((1591 : Int32) + q1.1).toNatClampNeg) q3.1) 142 (((1597 : Int32) + q1.1).toNatClampNeg) q5.1).1 142 1504) dX12_readWitness_62 sh_142 rfl (by decide) (by simp [z_wI, z_wL, z_wLs, upd, vp_updL]) ?_
    refine g_iconst (v := (1 : Int32)) dX12_readWitness_63 (by decide) ?_
    refine g_iadd dX12_readWitness_64 ?_
    refine g_iasN (a := 142) (j := 1504) dX12_readWitness_65 sh_142 rfl (by decide) ?_
    cases h
    exact g_vret dX12_readWitness_66 rfl hq
  · replace h := z_iff c7 h
    cases h
    exact g_vret dX12_readWitness_31 rfl hq
theorem dX12_readPart_0 : decode cX12_readPart 0 = .ok (.aload_n 0, 1) := by decide +kernel
theorem dX12_readPart_1 : decode cX12_readPart 1 = .ok (.invokevirtual 154, 3) := by decide +kernel
theorem dX12_readPart_4 : decode cX12_readPart 4 = .ok (.ifCond .eq 13, 3) := by decide +kernel
theorem dX12_readPart_7 : decode cX12_readPart 7 = .ok (.aload_n 0, 1) := by decide +kernel
theorem dX12_readPart_8 : decode cX12_readPart 8 = .ok (.iconst 5, 1) := by decide +kernel
theorem dX12_readPart_9 : decode cX12_readPart 9 = .ok (.bipush 16, 2) := by decide +kernel
theorem dX12_readPart_11 : decode cX12_readPart 11 = .ok (.invokevirtual 280, 3) := by decide +kernel
theorem dX12_readPart_14 : decode cX12_readPart 14 = .ok (.goto 141, 3) := by decide +kernel
theorem dX12_readPart_17 : decode cX12_readPart 17 = .ok (.aload_n 0, 1) := by decide +kernel
theorem dX12_readPart_18 : decode cX12_readPart 18 = .ok (.invokevirtual 157, 3) := by decide +kernel
theorem dX12_readPart_21 : decode cX12_readPart 21 = .ok (.ifCond .eq 14, 3) := by decide +kernel
theorem dX12_readPart_24 : decode cX12_readPart 24 = .ok (.aload_n 0, 1) := by decide +kernel
theorem dX12_readPart_25 : decode cX12_readPart 25 = .ok (.bipush 6, 2) := by decide +kernel
theorem dX12_readPart_27 : decode cX12_readPart 27 = .ok (.bipush 99, 2) := by decide +kernel
theorem dX12_readPart_29 : decode cX12_readPart 29 = .ok (.invokevirtual 280, 3) := by decide +kernel
theorem dX12_readPart_32 : decode cX12_readPart 32 = .ok (.goto 123, 3) := by decide +kernel
theorem dX12_readPart_35 : decode cX12_readPart 35 = .ok (.aload_n 0, 1) := by decide +kernel
theorem dX12_readPart_36 : decode cX12_readPart 36 = .ok (.invokevirtual 160, 3) := by decide +kernel
theorem dX12_readPart_39 : decode cX12_readPart 39 = .ok (.ifCond .eq 14, 3) := by decide +kernel
theorem dX12_readPart_42 : decode cX12_readPart 42 = .ok (.aload_n 0, 1) := by decide +kernel
theorem dX12_readPart_43 : decode cX12_readPart 43 = .ok (.bipush 7, 2) := by decide +kernel
theorem dX12_readPart_45 : decode cX12_readPart 45 = .ok (.bipush 99, 2) := by decide +kernel
theorem dX12_readPart_47 : decode cX12_readPart 47 = .ok (.invokevirtual 280, 3) := by decide +kernel
theorem dX12_readPart_50 : decode cX12_readPart 50 = .ok (.goto 105, 3) := by decide +kernel
theorem dX12_readPart_53 : decode cX12_readPart 53 = .ok (.aload_n 0, 1) := by decide +kernel
theorem dX12_readPart_54 : decode cX12_readPart 54 = .ok (.invokevirtual 147, 3) := by decide +kernel
theorem dX12_readPart_57 : decode cX12_readPart 57 = .ok (.ifCond .eq 10, 3) := by decide +kernel
theorem dX12_readPart_60 : decode cX12_readPart 60 = .ok (.aload_n 0, 1) := by decide +kernel
theorem dX12_readPart_61 : decode cX12_readPart 61 = .ok (.invokevirtual 283, 3) := by decide +kernel
theorem dX12_readPart_64 : decode cX12_readPart 64 = .ok (.goto 91, 3) := by decide +kernel
theorem dX12_readPart_67 : decode cX12_readPart 67 = .ok (.aload_n 0, 1) := by decide +kernel
theorem dX12_readPart_68 : decode cX12_readPart 68 = .ok (.invokevirtual 151, 3) := by decide +kernel
theorem dX12_readPart_71 : decode cX12_readPart 71 = .ok (.ifCond .eq 10, 3) := by decide +kernel
theorem dX12_readPart_74 : decode cX12_readPart 74 = .ok (.aload_n 0, 1) := by decide +kernel
theorem dX12_readPart_75 : decode cX12_readPart 75 = .ok (.invokevirtual 286, 3) := by decide +kernel
theorem dX12_readPart_78 : decode cX12_readPart 78 = .ok (.goto 77, 3) := by decide +kernel
theorem dX12_readPart_81 : decode cX12_readPart 81 = .ok (.aload_n 0, 1) := by decide +kernel
theorem dX12_readPart_82 : decode cX12_readPart 82 = .ok (.invokevirtual 163, 3) := by decide +kernel
theorem dX12_readPart_85 : decode cX12_readPart 85 = .ok (.ifCond .eq 10, 3) := by decide +kernel
theorem dX12_readPart_88 : decode cX12_readPart 88 = .ok (.aload_n 0, 1) := by decide +kernel
theorem dX12_readPart_89 : decode cX12_readPart 89 = .ok (.invokevirtual 289, 3) := by decide +kernel
theorem dX12_readPart_92 : decode cX12_readPart 92 = .ok (.goto 63, 3) := by decide +kernel
theorem dX12_readPart_95 : decode cX12_readPart 95 = .ok (.aload_n 0, 1) := by decide +kernel
theorem dX12_readPart_96 : decode cX12_readPart 96 = .ok (.invokevirtual 172, 3) := by decide +kernel
theorem dX12_readPart_99 : decode cX12_readPart 99 = .ok (.ifCond .eq 10, 3) := by decide +kernel
theorem dX12_readPart_102 : decode cX12_readPart 102 = .ok (.aload_n 0, 1) := by decide +kernel
theorem dX12_readPart_103 : decode cX12_readPart 103 = .ok (.invokevirtual 292, 3) := by decide +kernel
theorem dX12_readPart_106 : decode cX12_readPart 106 = .ok (.goto 49, 3) := by decide +kernel
theorem dX12_readPart_109 : decode cX12_readPart 109 = .ok (.aload_n 0, 1) := by decide +kernel
theorem dX12_readPart_110 : decode cX12_readPart 110 = .ok (.invokevirtual 181, 3) := by decide +kernel
theorem dX12_readPart_113 : decode cX12_readPart 113 = .ok (.ifCond .eq 10, 3) := by decide +kernel
theorem dX12_readPart_116 : decode cX12_readPart 116 = .ok (.aload_n 0, 1) := by decide +kernel
theorem dX12_readPart_117 : decode cX12_readPart 117 = .ok (.invokevirtual 295, 3) := by decide +kernel
theorem dX12_readPart_120 : decode cX12_readPart 120 = .ok (.goto 35, 3) := by decide +kernel
theorem dX12_readPart_123 : decode cX12_readPart 123 = .ok (.aload_n 0, 1) := by decide +kernel
theorem dX12_readPart_124 : decode cX12_readPart 124 = .ok (.invokevirtual 184, 3) := by decide +kernel
theorem dX12_readPart_127 : decode cX12_readPart 127 = .ok (.ifCond .eq 10, 3) := by decide +kernel
theorem dX12_readPart_130 : decode cX12_readPart 130 = .ok (.aload_n 0, 1) := by decide +kernel
theorem dX12_readPart_131 : decode cX12_readPart 131 = .ok (.invokevirtual 298, 3) := by decide +kernel
theorem dX12_readPart_134 : decode cX12_readPart 134 = .ok (.goto 21, 3) := by decide +kernel
theorem dX12_readPart_137 : decode cX12_readPart 137 = .ok (.aload_n 0, 1) := by decide +kernel
theorem dX12_readPart_138 : decode cX12_readPart 138 = .ok (.invokevirtual 190, 3) := by decide +kernel
theorem dX12_readPart_141 : decode cX12_readPart 141 = .ok (.ifCond .eq 10, 3) := by decide +kernel
theorem dX12_readPart_144 : decode cX12_readPart 144 = .ok (.aload_n 0, 1) := by decide +kernel
theorem dX12_readPart_145 : decode cX12_readPart 145 = .ok (.invokevirtual 301, 3) := by decide +kernel
theorem dX12_readPart_148 : decode cX12_readPart 148 = .ok (.goto 7, 3) := by decide +kernel
theorem dX12_readPart_151 : decode cX12_readPart 151 = .ok (.aload_n 0, 1) := by decide +kernel
theorem dX12_readPart_152 : decode cX12_readPart 152 = .ok (.invokevirtual 225, 3) := by decide +kernel
theorem dX12_readPart_155 : decode cX12_readPart 155 = .ok (.return_, 1) := by decide +kernel
def F_X12_readPart (w : Nat) (M : z_Mem) : Option (Unit × z_Mem) :=
  (F_X12_isOdds w M).bind fun q1 =>
  if q1.1 = true then
  (F_X12_readOnce w q1.2 (5 : Int32) (16 : Int32)).bind fun q51 =>
  some ((), q51.2)
  else
  (F_X12_isToll w q1.2).bind fun q4 =>
  if q4.1 = true then
  (F_X12_readOnce w q4.2 (6 : Int32) (99 : Int32)).bind fun q49 =>
  some ((), q49.2)
  else
  (F_X12_isWar w q4.2).bind fun q7 =>
  if q7.1 = true then
  (F_X12_readOnce w q7.2 (7 : Int32) (99 : Int32)).bind fun q47 =>
  some ((), q47.2)
  else
  (F_X12_isLies w q7.2).bind fun q10 =>
  if q10.1 = true then
  (F_X12_readLies w q10.2).bind fun q45 =>
  some ((), q45.2)
  else
  (F_X12_isChest w q10.2).bind fun q13 =>
  if q13.1 = true then
  (F_X12_readChest w q13.2).bind fun q43 =>
  some ((), q43.2)
  else
  (F_X12_isRight w q13.2).bind fun q16 =>
  if q16.1 = true then
  (F_X12_readRight w q16.2).bind fun q41 =>
  some ((), q41.2)
  else
  (F_X12_isDebt w q16.2).bind fun q19 =>
  if q19.1 = true then
  (F_X12_readDebt w q19.2).bind fun q39 =>
  some ((), q39.2)
  else
  (F_X12_isAsk w q19.2).bind fun q22 =>
  if q22.1 = true then
  (F_X12_readAsk w q22.2).bind fun q37 =>
  some ((), q37.2)
  else
  (F_X12_isClause w q22.2).bind fun q25 =>
  if q25.1 = true then
  (F_X12_readClause w q25.2).bind fun q35 =>
  some ((), q35.2)
  else
  (F_X12_isWitness w q25.2).bind fun q28 =>
  if q28.1 = true then
  (F_X12_readWitness w q28.2).bind fun q33 =>
  some ((), q33.2)
  else
  (F_X12_amiss w q28.2).bind fun q31 =>
  some ((), q31.2)
set_option maxHeartbeats 4000000 in
theorem A_X12_readPart {w : Nat} {M : z_Mem} {r : Unit} {M' : z_Mem} {Q : Option Value → z_Mem → Prop} (h : F_X12_readPart w M = some (r, M')) (hq : Q none M') : z_Cl 7 mX12_readPart [.ref 139] M Q := by
  refine g_in (ls := [some (.ref 139)]) rfl ?_
  unfold F_X12_readPart at h
  refine g_aload_n dX12_readPart_0 rfl rfl ?_
  obtain ⟨q1, e2, h⟩ := z_bd h
  refine g_callV (a := 137) (as := []) (rest := []) (c := mX12_isOdds) (k1 := 1) dX12_readPart_1 rfl rfl rfl sh_137 rfl rfl (Nat.le_of_ble_eq_true rfl) (Nat.le_of_ble_eq_true rfl) (by decide) ?_
  refine A_X12_isOdds e2 ?_
  show z_G none 7 mX12_readPart 4 [some (.ref 139)] [.int (z_tb q1.1)] q1.2 Q
  refine g_if_eq (t := 17) dX12_readPart_4 (by decide) (fun c3 => ?_) (fun c3 => ?_)
  · replace h := z_iff (z_tb0.mp c3) h
    refine g_aload_n dX12_readPart_17 rfl rfl ?_
    obtain ⟨q4, e5, h⟩ := z_bd h
    refine g_callV (a := 137) (as := []) (rest := []) (c := mX12_isToll) (k1 := 1) dX12_readPart_18 rfl rfl rfl sh_137 rfl rfl (Nat.le_of_ble_eq_true rfl) (Nat.le_of_ble_eq_true rfl) (by decide) ?_
    refine A_X12_isToll e5 ?_
    show z_G none 7 mX12_readPart 21 [some (.ref 139)] [.int (z_tb q4.1)] q4.2 Q
    refine g_if_eq (t := 35) dX12_readPart_21 (by decide) (fun c6 => ?_) (fun c6 => ?_)
    · replace h := z_iff (z_tb0.mp c6) h
      refine g_aload_n dX12_readPart_35 rfl rfl ?_
      obtain ⟨q7, e8, h⟩ := z_bd h
      refine g_callV (a := 137) (as := []) (rest := []) (c := mX12_isWar) (k1 := 1) dX12_readPart_36 rfl rfl rfl sh_137 rfl rfl (Nat.le_of_ble_eq_true rfl) (Nat.le_of_ble_eq_true rfl) (by decide) ?_
      refine A_X12_isWar e8 ?_
      show z_G none 7 mX12_readPart 39 [some (.ref 139)] [.int (z_tb q7.1)] q7.2 Q
      refine g_if_eq (t := 53) dX12_readPart_39 (by decide) (fun c9 => ?_) (fun c9 => ?_)
      · replace h := z_iff (z_tb0.mp c9) h
        refine g_aload_n dX12_readPart_53 rfl rfl ?_
        obtain ⟨q10, e11, h⟩ := z_bd h
        refine g_callV (a := 137) (as := []) (rest := []) (c := mX12_isLies) (k1 := 1) dX12_readPart_54 rfl rfl rfl sh_137 rfl rfl (Nat.le_of_ble_eq_true rfl) (Nat.le_of_ble_eq_true rfl) (by decide) ?_
        refine A_X12_isLies e11 ?_
        show z_G none 7 mX12_readPart 57 [some (.ref 139)] [.int (z_tb q10.1)] q10.2 Q
        refine g_if_eq (t := 67) dX12_readPart_57 (by decide) (fun c12 => ?_) (fun c12 => ?_)
        · replace h := z_iff (z_tb0.mp c12) h
          refine g_aload_n dX12_readPart_67 rfl rfl ?_
          obtain ⟨q13, e14, h⟩ := z_bd h
          refine g_callV (a := 137) (as := []) (rest := []) (c := mX12_isChest) (k1 := 1) dX12_readPart_68 rfl rfl rfl sh_137 rfl rfl (Nat.le_of_ble_eq_true rfl) (Nat.le_of_ble_eq_true rfl) (by decide) ?_
          refine A_X12_isChest e14 ?_
          show z_G none 7 mX12_readPart 71 [some (.ref 139)] [.int (z_tb q13.1)] q13.2 Q
          refine g_if_eq (t := 81) dX12_readPart_71 (by decide) (fun c15 => ?_) (fun c15 => ?_)
          · replace h := z_iff (z_tb0.mp c15) h
            refine g_aload_n dX12_readPart_81 rfl rfl ?_
            obtain ⟨q16, e17, h⟩ := z_bd h
            refine g_callV (a := 137) (as := []) (rest := []) (c := mX12_isRight) (k1 := 1) dX12_readPart_82 rfl rfl rfl sh_137 rfl rfl (Nat.le_of_ble_eq_true rfl) (Nat.le_of_ble_eq_true rfl) (by decide) ?_
            refine A_X12_isRight e17 ?_
            show z_G none 7 mX12_readPart 85 [some (.ref 139)] [.int (z_tb q16.1)] q16.2 Q
            refine g_if_eq (t := 95) dX12_readPart_85 (by decide) (fun c18 => ?_) (fun c18 => ?_)
            · replace h := z_iff (z_tb0.mp c18) h
              refine g_aload_n dX12_readPart_95 rfl rfl ?_
              obtain ⟨q19, e20, h⟩ := z_bd h
              refine g_callV (a := 137) (as := []) (rest := []) (c := mX12_isDebt) (k1 := 1) dX12_readPart_96 rfl rfl rfl sh_137 rfl rfl (Nat.le_of_ble_eq_true rfl) (Nat.le_of_ble_eq_true rfl) (by decide) ?_
              refine A_X12_isDebt e20 ?_
              show z_G none 7 mX12_readPart 99 [some (.ref 139)] [.int (z_tb q19.1)] q19.2 Q
              refine g_if_eq (t := 109) dX12_readPart_99 (by decide) (fun c21 => ?_) (fun c21 => ?_)
              · replace h := z_iff (z_tb0.mp c21) h
                refine g_aload_n dX12_readPart_109 rfl rfl ?_
                obtain ⟨q22, e23, h⟩ := z_bd h
                refine g_callV (a := 137) (as := []) (rest := []) (c := mX12_isAsk) (k1 := 1) dX12_readPart_110 rfl rfl rfl sh_137 rfl rfl (Nat.le_of_ble_eq_true rfl) (Nat.le_of_ble_eq_true rfl) (by decide) ?_
                refine A_X12_isAsk e23 ?_
                show z_G none 7 mX12_readPart 113 [some (.ref 139)] [.int (z_tb q22.1)] q22.2 Q
                refine g_if_eq (t := 123) dX12_readPart_113 (by decide) (fun c24 => ?_) (fun c24 => ?_)
                · replace h := z_iff (z_tb0.mp c24) h
                  refine g_aload_n dX12_readPart_123 rfl rfl ?_
                  obtain ⟨q25, e26, h⟩ := z_bd h
                  refine g_callV (a := 137) (as := []) (rest := []) (c := mX12_isClause) (k1 := 1) dX12_readPart_124 rfl rfl rfl sh_137 rfl rfl (Nat.le_of_ble_eq_true rfl) (Nat.le_of_ble_eq_true rfl) (by decide) ?_
                  refine A_X12_isClause e26 ?_
                  show z_G none 7 mX12_readPart 127 [some (.ref 139)] [.int (z_tb q25.1)] q25.2 Q
                  refine g_if_eq (t := 137) dX12_readPart_127 (by decide) (fun c27 => ?_) (fun c27 => ?_)
                  · replace h := z_iff (z_tb0.mp c27) h
                    refine g_aload_n dX12_readPart_137 rfl rfl ?_
                    obtain ⟨q28, e29, h⟩ := z_bd h
                    refine g_callV (a := 137) (as := []) (rest := []) (c := mX12_isWitness) (k1 := 1) dX12_readPart_138 rfl rfl rfl sh_137 rfl rfl (Nat.le_of_ble_eq_true rfl) (Nat.le_of_ble_eq_true rfl) (by decide) ?_
                    refine A_X12_isWitness e29 ?_
                    show z_G none 7 mX12_readPart 141 [some (.ref 139)] [.int (z_tb q28.1)] q28.2 Q
                    refine g_if_eq (t := 151) dX12_readPart_141 (by decide) (fun c30 => ?_) (fun c30 => ?_)
                    · replace h := z_iff (z_tb0.mp c30) h
                      refine g_aload_n dX12_readPart_151 rfl rfl ?_
                      obtain ⟨q31, e32, h⟩ := z_bd h
                      refine g_callV (a := 137) (as := []) (rest := []) (c := mX12_amiss) (k1 := 1) dX12_readPart_152 rfl rfl rfl sh_137 rfl rfl (Nat.le_of_ble_eq_true rfl) (Nat.le_of_ble_eq_true rfl) (by decide) ?_
                      refine A_X12_amiss e32 ?_
                      show z_G none 7 mX12_readPart 155 [some (.ref 139)] [] q31.2 Q
                      cases h
                      exact g_vret dX12_readPart_155 rfl hq
                    · replace h := z_ift (z_tbn.mp c30) h
                      refine g_aload_n dX12_readPart_144 rfl rfl ?_
                      obtain ⟨q33, e34, h⟩ := z_bd h
                      refine g_callV (a := 137) (as := []) (rest := []) (c := mX12_readWitness) (k1 := 4) dX12_readPart_145 rfl rfl rfl sh_137 rfl rfl (Nat.le_of_ble_eq_true rfl) (Nat.le_of_ble_eq_true rfl) (by decide) ?_
                      refine A_X12_readWitness e34 ?_
                      show z_G none 7 mX12_readPart 148 [some (.ref 139)] [] q33.2 Q
                      refine g_goto (t := 155) dX12_readPart_148 (by decide) ?_
                      cases h
                      exact g_vret dX12_readPart_155 rfl hq
                  · replace h := z_ift (z_tbn.mp c27) h
                    refine g_aload_n dX12_readPart_130 rfl rfl ?_
                    obtain ⟨q35, e36, h⟩ := z_bd h
                    refine g_callV (a := 137) (as := []) (rest := []) (c := mX12_readClause) (k1 := 6) dX12_readPart_131 rfl rfl rfl sh_137 rfl rfl (Nat.le_of_ble_eq_true rfl) (Nat.le_of_ble_eq_true rfl) (by decide) ?_
                    refine A_X12_readClause e36 ?_
                    show z_G none 7 mX12_readPart 134 [some (.ref 139)] [] q35.2 Q
                    refine g_goto (t := 155) dX12_readPart_134 (by decide) ?_
                    cases h
                    exact g_vret dX12_readPart_155 rfl hq
                · replace h := z_ift (z_tbn.mp c24) h
                  refine g_aload_n dX12_readPart_116 rfl rfl ?_
                  obtain ⟨q37, e38, h⟩ := z_bd h
                  refine g_callV (a := 137) (as := []) (rest := []) (c := mX12_readAsk) (k1 := 5) dX12_readPart_117 rfl rfl rfl sh_137 rfl rfl (Nat.le_of_ble_eq_true rfl) (Nat.le_of_ble_eq_true rfl) (by decide) ?_
                  refine A_X12_readAsk e38 ?_
                  show z_G none 7 mX12_readPart 120 [some (.ref 139)] [] q37.2 Q
                  refine g_goto (t := 155) dX12_readPart_120 (by decide) ?_
                  cases h
                  exact g_vret dX12_readPart_155 rfl hq
              · replace h := z_ift (z_tbn.mp c21) h
                refine g_aload_n dX12_readPart_102 rfl rfl ?_
                obtain ⟨q39, e40, h⟩ := z_bd h
                refine g_callV (a := 137) (as := []) (rest := []) (c := mX12_readDebt) (k1 := 4) dX12_readPart_103 rfl rfl rfl sh_137 rfl rfl (Nat.le_of_ble_eq_true rfl) (Nat.le_of_ble_eq_true rfl) (by decide) ?_
                refine A_X12_readDebt e40 ?_
                show z_G none 7 mX12_readPart 106 [some (.ref 139)] [] q39.2 Q
                refine g_goto (t := 155) dX12_readPart_106 (by decide) ?_
                cases h
                exact g_vret dX12_readPart_155 rfl hq
            · replace h := z_ift (z_tbn.mp c18) h
              refine g_aload_n dX12_readPart_88 rfl rfl ?_
              obtain ⟨q41, e42, h⟩ := z_bd h
              refine g_callV (a := 137) (as := []) (rest := []) (c := mX12_readRight) (k1 := 4) dX12_readPart_89 rfl rfl rfl sh_137 rfl rfl (Nat.le_of_ble_eq_true rfl) (Nat.le_of_ble_eq_true rfl) (by decide) ?_
              refine A_X12_readRight e42 ?_
              show z_G none 7 mX12_readPart 92 [some (.ref 139)] [] q41.2 Q
              refine g_goto (t := 155) dX12_readPart_92 (by decide) ?_
              cases h
              exact g_vret dX12_readPart_155 rfl hq
          · replace h := z_ift (z_tbn.mp c15) h
            refine g_aload_n dX12_readPart_74 rfl rfl ?_
            obtain ⟨q43, e44, h⟩ := z_bd h
            refine g_callV (a := 137) (as := []) (rest := []) (c := mX12_readChest) (k1 := 3) dX12_readPart_75 rfl rfl rfl sh_137 rfl rfl (Nat.le_of_ble_eq_true rfl) (Nat.le_of_ble_eq_true rfl) (by decide) ?_
            refine A_X12_readChest e44 ?_
            show z_G none 7 mX12_readPart 78 [some (.ref 139)] [] q43.2 Q
            refine g_goto (t := 155) dX12_readPart_78 (by decide) ?_
            cases h
            exact g_vret dX12_readPart_155 rfl hq
        · replace h := z_ift (z_tbn.mp c12) h
          refine g_aload_n dX12_readPart_60 rfl rfl ?_
          obtain ⟨q45, e46, h⟩ := z_bd h
          refine g_callV (a := 137) (as := []) (rest := []) (c := mX12_readLies) (k1 := 4) dX12_readPart_61 rfl rfl rfl sh_137 rfl rfl (Nat.le_of_ble_eq_true rfl) (Nat.le_of_ble_eq_true rfl) (by decide) ?_
          refine A_X12_readLies e46 ?_
          show z_G none 7 mX12_readPart 64 [some (.ref 139)] [] q45.2 Q
          refine g_goto (t := 155) dX12_readPart_64 (by decide) ?_
          cases h
          exact g_vret dX12_readPart_155 rfl hq
      · replace h := z_ift (z_tbn.mp c9) h
        refine g_aload_n dX12_readPart_42 rfl rfl ?_
        refine g_bipush (v := (7 : Int32)) dX12_readPart_43 (by decide) ?_
        refine g_bipush (v := (99 : Int32)) dX12_readPart_45 (by decide) ?_
        obtain ⟨q47, e48, h⟩ := z_bd h
        refine g_callV (a := 137) (as := [.int (7 : Int32), .int (99 : Int32)]) (rest := []) (c := mX12_readOnce) (k1 := 4) dX12_readPart_47 rfl rfl rfl sh_137 rfl rfl (Nat.le_of_ble_eq_true rfl) (Nat.le_of_ble_eq_true rfl) (by decide) ?_
        refine A_X12_readOnce e48 ?_
        show z_G none 7 mX12_readPart 50 [some (.ref 139)] [] q47.2 Q
        refine g_goto (t := 155) dX12_readPart_50 (by decide) ?_
        cases h
        exact g_vret dX12_readPart_155 rfl hq
    · replace h := z_ift (z_tbn.mp c6) h
      refine g_aload_n dX12_readPart_24 rfl rfl ?_
      refine g_bipush (v := (6 : Int32)) dX12_readPart_25 (by decide) ?_
      refine g_bipush (v := (99 : Int32)) dX12_readPart_27 (by decide) ?_
      obtain ⟨q49, e50, h⟩ := z_bd h
      refine g_callV (a := 137) (as := [.int (6 : Int32), .int (99 : Int32)]) (rest := []) (c := mX12_readOnce) (k1 := 4) dX12_readPart_29 rfl rfl rfl sh_137 rfl rfl (Nat.le_of_ble_eq_true rfl) (Nat.le_of_ble_eq_true rfl) (by decide) ?_
      refine A_X12_readOnce e50 ?_
      show z_G none 7 mX12_readPart 32 [some (.ref 139)] [] q49.2 Q
      refine g_goto (t := 155) dX12_readPart_32 (by decide) ?_
      cases h
      exact g_vret dX12_readPart_155 rfl hq
  · replace h := z_ift (z_tbn.mp c3) h
    refine g_aload_n dX12_readPart_7 rfl rfl ?_
    refine g_iconst (v := (5 : Int32)) dX12_readPart_8 (by decide) ?_
    refine g_bipush (v := (16 : Int32)) dX12_readPart_9 (by decide) ?_
    obtain ⟨q51, e52, h⟩ := z_bd h
    refine g_callV (a := 137) (as := [.int (5 : Int32), .int (16 : Int32)]) (rest := []) (c := mX12_readOnce) (k1 := 4) dX12_readPart_11 rfl rfl rfl sh_137 rfl rfl (Nat.le_of_ble_eq_true rfl) (Nat.le_of_ble_eq_true rfl) (by decide) ?_
    refine A_X12_readOnce e52 ?_
    show z_G none 7 mX12_readPart 14 [some (.ref 139)] [] q51.2 Q
    refine g_goto (t := 155) dX12_readPart_14 (by decide) ?_
    cases h
    exact g_vret dX12_readPart_155 rfl hq
theorem dX12_copy_0 : decode cX12_copy 0 = .ok (.iconst 0, 1) := by decide +kernel
theorem dX12_copy_1 : decode cX12_copy 1 = .ok (.istore_n 3, 1) := by decide +kernel
theorem dX12_copy_2 : decode cX12_copy 2 = .ok (.iload_n 3, 1) := by decide +kernel
theorem dX12_copy_3 : decode cX12_copy 3 = .ok (.sipush 375, 3) := by decide +kernel
theorem dX12_copy_6 : decode cX12_copy 6 = .ok (.if_icmp .ge 33, 3) := by decide +kernel
theorem dX12_copy_9 : decode cX12_copy 9 = .ok (.aload_n 0, 1) := by decide +kernel
theorem dX12_copy_10 : decode cX12_copy 10 = .ok (.getfield 35, 3) := by decide +kernel
theorem dX12_copy_13 : decode cX12_copy 13 = .ok (.sipush 375, 3) := by decide +kernel
theorem dX12_copy_16 : decode cX12_copy 16 = .ok (.iload_n 2, 1) := by decide +kernel
theorem dX12_copy_17 : decode cX12_copy 17 = .ok (.imul, 1) := by decide +kernel
theorem dX12_copy_18 : decode cX12_copy 18 = .ok (.iload_n 3, 1) := by decide +kernel
theorem dX12_copy_19 : decode cX12_copy 19 = .ok (.iadd, 1) := by decide +kernel
theorem dX12_copy_20 : decode cX12_copy 20 = .ok (.aload_n 0, 1) := by decide +kernel
theorem dX12_copy_21 : decode cX12_copy 21 = .ok (.getfield 35, 3) := by decide +kernel
theorem dX12_copy_24 : decode cX12_copy 24 = .ok (.sipush 375, 3) := by decide +kernel
theorem dX12_copy_27 : decode cX12_copy 27 = .ok (.iload_n 1, 1) := by decide +kernel
theorem dX12_copy_28 : decode cX12_copy 28 = .ok (.imul, 1) := by decide +kernel
theorem dX12_copy_29 : decode cX12_copy 29 = .ok (.iload_n 3, 1) := by decide +kernel
theorem dX12_copy_30 : decode cX12_copy 30 = .ok (.iadd, 1) := by decide +kernel
theorem dX12_copy_31 : decode cX12_copy 31 = .ok (.iaload, 1) := by decide +kernel
theorem dX12_copy_32 : decode cX12_copy 32 = .ok (.iastore, 1) := by decide +kernel
theorem dX12_copy_33 : decode cX12_copy 33 = .ok (.iinc 3 1, 3) := by decide +kernel
theorem dX12_copy_36 : decode cX12_copy 36 = .ok (.goto (-34), 3) := by decide +kernel
theorem dX12_copy_39 : decode cX12_copy 39 = .ok (.return_, 1) := by decide +kernel
def L_X12_copy (w : Nat) : Nat → z_Mem → Int32 → Int32 → Int32 → Option (Unit × z_Mem)
  | 0, _, _, _, _ => none
  | c + 1, M, x1, x2, x3 =>
    if (375 : Int32) ≤ x3 then
    some ((), M)
    else
    if (((375 : Int32) * x1) + x3) < 0 ∨ 1875 ≤ (((375 : Int32) * x1) + x3).toNatClampNeg then none else
    if (((375 : Int32) * x2) + x3) < 0 ∨ 1875 ≤ (((375 : Int32) * x2) + x3).toNatClampNeg then none else
    L_X12_copy w c (z_wI M 142 ((((375 : Int32) * x2) + x3).toNatClampNeg) (M.1 142 (((375 : Int32) * x1) + x3).toNatClampNeg)) x1 x2 (x3 + (1 : Int32))
set_option maxHeartbeats 4000000 in
theorem AL_X12_copy {w : Nat} : ∀ (c : Nat), (∀ (M : z_Mem) (x1 : Int32) (x2 : Int32) (x3 : Int32) (r : Unit) (M' : z_Mem) (Q : Option Value → z_Mem → Prop), L_X12_copy w c M x1 x2 x3 = some (r, M') → Q none M' → z_G none 0 mX12_copy 2 [some (.ref 139), some (.int x1), some (.int x2), some (.int x3)] [] M Q) := by
  intro c
  induction c with
  | zero => exact (fun M x1 x2 x3 r M' Q h hq => by rw [L_X12_copy] at h; cases h)
  | succ c ih =>
    intro M x1 x2 x3 r M' Q h hq
    rw [L_X12_copy] at h
    refine g_iload_n dX12_copy_2 rfl rfl ?_
    refine g_sipush (v := (375 : Int32)) dX12_copy_3 (by decide) ?_
    refine g_ic_ge (t := 39) dX12_copy_6 (by decide) (fun c1 => ?_) (fun c1 => ?_)
    · replace h := z_ift c1 h
      cases h
      exact g_vret dX12_copy_39 rfl hq
    · replace h := z_iff c1 h
      refine g_aload_n dX12_copy_9 rfl rfl ?_
      refine g_get (a := 137) (v := .ref 144) dX12_copy_10 f_12_35 sh_137 rfl rfl ?_
      refine g_sipush (v := (375 : Int32)) dX12_copy_13 (by decide) ?_
      refine g_iload_n dX12_copy_16 rfl rfl ?_
      refine g_imul dX12_copy_17 ?_
      refine g_iload_n dX12_copy_18 rfl rfl ?_
      refine g_iadd dX12_copy_19 ?_
      refine g_aload_n dX12_copy_20 rfl rfl ?_
      refine g_get (a := 137) (v := .ref 144) dX12_copy_21 f_12_35 sh_137 rfl rfl ?_
      refine g_sipush (v := (375 : Int32)) dX12_copy_24 (by decide) ?_
      refine g_iload_n dX12_copy_27 rfl rfl ?_
      refine g_imul dX12_copy_28 ?_
      refine g_iload_n dX12_copy_29 rfl rfl ?_
      refine g_iadd dX12_copy_30 ?_
      by_cases g2 : (((375 : Int32) * x1) + x3) < 0 ∨ 1875 ≤ (((375 : Int32) * x1) + x3).toNatClampNeg
      · rw [if_pos g2] at h; cases h
      replace h := z_iff g2 h
      refine g_iald (a := 142) dX12_copy_31 sh_142 g2 ?_
      by_cases g3 : (((375 : Int32) * x2) + x3) < 0 ∨ 1875 ≤ (((375 : Int32) * x2) + x3).toNatClampNeg
      · rw [if_pos g3] at h; cases h
      replace h := z_iff g3 h
      refine g_iast (a := 142) dX12_copy_32 sh_142 g3 ?_
      refine g_iinc (v := x3 + (1 : Int32)) (ls' := [some (.ref 139), some (.int x1), some (.int x2), some (.int (x3 + (1 : Int32)))]) dX12_copy_33 rfl rfl rfl ?_
      refine g_goto (t := 2) dX12_copy_36 (by decide) ?_
      exact g_sub (z_sub_s (z_sub_s (z_sub_s (z_sub_s z_sub_nil)))) (ih _ _ _ _ _ _ _ h hq)
def F_X12_copy (w : Nat) (M : z_Mem) (a1 : Int32) (a2 : Int32) : Option (Unit × z_Mem) :=
  L_X12_copy w w M a1 a2 (0 : Int32)
set_option maxHeartbeats 4000000 in
theorem A_X12_copy {w : Nat} {M : z_Mem} {a1 : Int32} {a2 : Int32} {r : Unit} {M' : z_Mem} {Q : Option Value → z_Mem → Prop} (h : F_X12_copy w M a1 a2 = some (r, M')) (hq : Q none M') : z_Cl 0 mX12_copy [.ref 139, .int a1, .int a2] M Q := by
  refine g_in (ls := [some (.ref 139), some (.int a1), some (.int a2), none]) rfl ?_
  unfold F_X12_copy at h
  refine g_iconst (v := (0 : Int32)) dX12_copy_0 (by decide) ?_
  refine g_istore_n (ls' := [some (.ref 139), some (.int a1), some (.int a2), some (.int (0 : Int32))]) dX12_copy_1 rfl (Nat.le_of_ble_eq_true rfl) rfl ?_
  exact g_sub (z_sub_s (z_sub_s (z_sub_s (z_sub_s z_sub_nil)))) ((AL_X12_copy (w := w) w) _ _ _ _ _ _ _ h hq)
theorem dX12_parish_0 : decode cX12_parish 0 = .ok (.aload_n 0, 1) := by decide +kernel
theorem dX12_parish_1 : decode cX12_parish 1 = .ok (.iconst 0, 1) := by decide +kernel
theorem dX12_parish_2 : decode cX12_parish 2 = .ok (.putfield 57, 3) := by decide +kernel
theorem dX12_parish_5 : decode cX12_parish 5 = .ok (.aload_n 0, 1) := by decide +kernel
theorem dX12_parish_6 : decode cX12_parish 6 = .ok (.iconst 0, 1) := by decide +kernel
theorem dX12_parish_7 : decode cX12_parish 7 = .ok (.putfield 60, 3) := by decide +kernel
theorem dX12_parish_10 : decode cX12_parish 10 = .ok (.aload_n 0, 1) := by decide +kernel
theorem dX12_parish_11 : decode cX12_parish 11 = .ok (.iload_n 1, 1) := by decide +kernel
theorem dX12_parish_12 : decode cX12_parish 12 = .ok (.sipush 900, 3) := by decide +kernel
theorem dX12_parish_15 : decode cX12_parish 15 = .ok (.invokevirtual 304, 3) := by decide +kernel
theorem dX12_parish_18 : decode cX12_parish 18 = .ok (.ifCond .ne 5, 3) := by decide +kernel
theorem dX12_parish_21 : decode cX12_parish 21 = .ok (.iconst (-1), 1) := by decide +kernel
theorem dX12_parish_22 : decode cX12_parish 22 = .ok (.ireturn, 1) := by decide +kernel
theorem dX12_parish_23 : decode cX12_parish 23 = .ok (.aload_n 0, 1) := by decide +kernel
theorem dX12_parish_24 : decode cX12_parish 24 = .ok (.iconst 4, 1) := by decide +kernel
theorem dX12_parish_25 : decode cX12_parish 25 = .ok (.invokevirtual 53, 3) := by decide +kernel
theorem dX12_parish_28 : decode cX12_parish 28 = .ok (.aload_n 0, 1) := by decide +kernel
theorem dX12_parish_29 : decode cX12_parish 29 = .ok (.iconst 0, 1) := by decide +kernel
theorem dX12_parish_30 : decode cX12_parish 30 = .ok (.putfield 244, 3) := by decide +kernel
theorem dX12_parish_33 : decode cX12_parish 33 = .ok (.aload_n 0, 1) := by decide +kernel
theorem dX12_parish_34 : decode cX12_parish 34 = .ok (.getfield 212, 3) := by decide +kernel
theorem dX12_parish_37 : decode cX12_parish 37 = .ok (.ifCond .ne 27, 3) := by decide +kernel
theorem dX12_parish_40 : decode cX12_parish 40 = .ok (.aload_n 0, 1) := by decide +kernel
theorem dX12_parish_41 : decode cX12_parish 41 = .ok (.getfield 112, 3) := by decide +kernel
theorem dX12_parish_44 : decode cX12_parish 44 = .ok (.ifCond .eq 20, 3) := by decide +kernel
theorem dX12_parish_47 : decode cX12_parish 47 = .ok (.aload_n 0, 1) := by decide +kernel
theorem dX12_parish_48 : decode cX12_parish 48 = .ok (.invokevirtual 307, 3) := by decide +kernel
theorem dX12_parish_51 : decode cX12_parish 51 = .ok (.aload_n 0, 1) := by decide +kernel
theorem dX12_parish_52 : decode cX12_parish 52 = .ok (.aload_n 0, 1) := by decide +kernel
theorem dX12_parish_53 : decode cX12_parish 53 = .ok (.bipush 59, 2) := by decide +kernel
theorem dX12_parish_55 : decode cX12_parish 55 = .ok (.invokevirtual 310, 3) := by decide +kernel
theorem dX12_parish_58 : decode cX12_parish 58 = .ok (.invokevirtual 228, 3) := by decide +kernel
theorem dX12_parish_61 : decode cX12_parish 61 = .ok (.goto (-28), 3) := by decide +kernel
theorem dX12_parish_64 : decode cX12_parish 64 = .ok (.aload_n 0, 1) := by decide +kernel
theorem dX12_parish_65 : decode cX12_parish 65 = .ok (.invokevirtual 313, 3) := by decide +kernel
theorem dX12_parish_68 : decode cX12_parish 68 = .ok (.ifCond .ne 5, 3) := by decide +kernel
theorem dX12_parish_71 : decode cX12_parish 71 = .ok (.iconst (-1), 1) := by decide +kernel
theorem dX12_parish_72 : decode cX12_parish 72 = .ok (.ireturn, 1) := by decide +kernel
theorem dX12_parish_73 : decode cX12_parish 73 = .ok (.aload_n 0, 1) := by decide +kernel
theorem dX12_parish_74 : decode cX12_parish 74 = .ok (.iconst 4, 1) := by decide +kernel
theorem dX12_parish_75 : decode cX12_parish 75 = .ok (.iconst 0, 1) := by decide +kernel
theorem dX12_parish_76 : decode cX12_parish 76 = .ok (.invokevirtual 316, 3) := by decide +kernel
theorem dX12_parish_79 : decode cX12_parish 79 = .ok (.aload_n 0, 1) := by decide +kernel
theorem dX12_parish_80 : decode cX12_parish 80 = .ok (.getfield 35, 3) := by decide +kernel
theorem dX12_parish_83 : decode cX12_parish 83 = .ok (.iconst 0, 1) := by decide +kernel
theorem dX12_parish_84 : decode cX12_parish 84 = .ok (.iaload, 1) := by decide +kernel
theorem dX12_parish_85 : decode cX12_parish 85 = .ok (.ireturn, 1) := by decide +kernel
def L_X12_parish (w : Nat) : Nat → z_Mem → Option (Int32 × z_Mem)
  | 0, _ => none
  | c + 1, M =>
    if (M.1 137 12) = (0 : Int32) then
    if (M.1 137 14) = (0 : Int32) then
    (F_X12_isWell w M).bind fun q8 =>
    if q8.1 = true then
    (F_X12_copy w q8.2 (4 : Int32) (0 : Int32)).bind fun q11 =>
    some (q11.2.1 142 0, q11.2)
    else
    some ((-1 : Int32), q8.2)
    else
    (F_X12_readPart w M).bind fun q13 =>
    (F_X12_isSign w q13.2 (59 : Int32)).bind fun q15 =>
    (F_X12_must w q15.2 (z_tb q15.1)).bind fun q17 =>
    L_X12_parish w c q17.2
    else
    (F_X12_isWell w M).bind fun q2 =>
    if q2.1 = true then
    (F_X12_copy w q2.2 (4 : Int32) (0 : Int32)).bind fun q5 =>
    some (q5.2.1 142 0, q5.2)
    else
    some ((-1 : Int32), q2.2)
set_option maxHeartbeats 4000000 in
theorem AL_X12_parish {w : Nat} : ∀ (c : Nat), (∀ (M : z_Mem) (r : Int32) (M' : z_Mem) (Q : Option Value → z_Mem → Prop), L_X12_parish w c M = some (r, M') → Q (some (.int r)) M' → z_G none 8 mX12_parish 33 [some (.ref 139), none] [] M Q) := by
  intro c
  induction c with
  | zero => exact (fun M r M' Q h hq => by rw [L_X12_parish] at h; cases h)
  | succ c ih =>
    intro M r M' Q h hq
    rw [L_X12_parish] at h
    refine g_aload_n dX12_parish_33 rfl rfl ?_
    refine g_get (a := 137) (v := .int (M.1 137 12)) dX12_parish_34 f_12_212 sh_137 rfl rfl ?_
    refine g_if_ne (t := 64) dX12_parish_37 (by decide) (fun c1 => ?_) (fun c1 => ?_)
    · replace h := z_iff c1 h
      refine g_aload_n dX12_parish_64 rfl rfl ?_
      obtain ⟨q2, e3, h⟩ := z_bd h
      refine g_callV (a := 137) (as := []) (rest := []) (c := mX12_isWell) (k1 := 1) dX12_parish_65 rfl rfl rfl sh_137 rfl rfl (Nat.le_of_ble_eq_true rfl) (Nat.le_of_ble_eq_true rfl) (by decide) ?_
      refine A_X12_isWell e3 ?_
      show z_G none 8 mX12_parish 68 [some (.ref 139), none] [.int (z_tb q2.1)] q2.2 Q
      refine g_if_ne (t := 73) dX12_parish_68 (by decide) (fun c4 => ?_) (fun c4 => ?_)
      · replace h := z_ift (z_tbn.mp c4) h
        refine g_aload_n dX12_parish_73 rfl rfl ?_
        refine g_iconst (v := (4 : Int32)) dX12_parish_74 (by decide) ?_
        refine g_iconst (v := (0 : Int32)) dX12_parish_75 (by decide) ?_
        obtain ⟨q5, e6, h⟩ := z_bd h
        refine g_callV (a := 137) (as := [.int (4 : Int32), .int (0 : Int32)]) (rest := []) (c := mX12_copy) (k1 := 0) dX12_parish_76 rfl rfl rfl sh_137 rfl rfl (Nat.le_of_ble_eq_true rfl) (Nat.le_of_ble_eq_true rfl) (by decide) ?_
        refine A_X12_copy e6 ?_
        show z_G none 8 mX12_parish 79 [some (.ref 139), none] [] q5.2 Q
        refine g_aload_n dX12_parish_79 rfl rfl ?_
        refine g_get (a := 137) (v := .ref 144) dX12_parish_80 f_12_35 sh_137 rfl rfl ?_
        refine g_iconst (v := (0 : Int32)) dX12_parish_83 (by decide) ?_
        refine g_ialN (a := 142) (j := 0) (v := q5.2.1 142 0) dX12_parish_84 sh_142 rfl (by decide) rfl ?_
        cases h
        exact g_iret dX12_parish_85 rfl rfl hq
      · replace h := z_iff (z_tb0.mp c4) h
        refine g_iconst (v := (-1 : Int32)) dX12_parish_71 (by decide) ?_
        cases h
        exact g_iret dX12_parish_72 rfl rfl hq
    · replace h := z_ift c1 h
      refine g_aload_n dX12_parish_40 rfl rfl ?_
      refine g_get (a := 137) (v := .int (M.1 137 14)) dX12_parish_41 f_12_112 sh_137 rfl rfl ?_
      refine g_if_eq (t := 64) dX12_parish_44 (by decide) (fun c7 => ?_) (fun c7 => ?_)
      · replace h := z_ift c7 h
        refine g_aload_n dX12_parish_64 rfl rfl ?_
        obtain ⟨q8, e9, h⟩ := z_bd h
        refine g_callV (a := 137) (as := []) (rest := []) (c := mX12_isWell) (k1 := 1) dX12_parish_65 rfl rfl rfl sh_137 rfl rfl (Nat.le_of_ble_eq_true rfl) (Nat.le_of_ble_eq_true rfl) (by decide) ?_
        refine A_X12_isWell e9 ?_
        show z_G none 8 mX12_parish 68 [some (.ref 139), none] [.int (z_tb q8.1)] q8.2 Q
        refine g_if_ne (t := 73) dX12_parish_68 (by decide) (fun c10 => ?_) (fun c10 => ?_)
        · replace h := z_ift (z_tbn.mp c10) h
          refine g_aload_n dX12_parish_73 rfl rfl ?_
          refine g_iconst (v := (4 : Int32)) dX12_parish_74 (by decide) ?_
          refine g_iconst (v := (0 : Int32)) dX12_parish_75 (by decide) ?_
          obtain ⟨q11, e12, h⟩ := z_bd h
          refine g_callV (a := 137) (as := [.int (4 : Int32), .int (0 : Int32)]) (rest := []) (c := mX12_copy) (k1 := 0) dX12_parish_76 rfl rfl rfl sh_137 rfl rfl (Nat.le_of_ble_eq_true rfl) (Nat.le_of_ble_eq_true rfl) (by decide) ?_
          refine A_X12_copy e12 ?_
          show z_G none 8 mX12_parish 79 [some (.ref 139), none] [] q11.2 Q
          refine g_aload_n dX12_parish_79 rfl rfl ?_
          refine g_get (a := 137) (v := .ref 144) dX12_parish_80 f_12_35 sh_137 rfl rfl ?_
          refine g_iconst (v := (0 : Int32)) dX12_parish_83 (by decide) ?_
          refine g_ialN (a := 142) (j := 0) (v := q11.2.1 142 0) dX12_parish_84 sh_142 rfl (by decide) rfl ?_
          cases h
          exact g_iret dX12_parish_85 rfl rfl hq
        · replace h := z_iff (z_tb0.mp c10) h
          refine g_iconst (v := (-1 : Int32)) dX12_parish_71 (by decide) ?_
          cases h
          exact g_iret dX12_parish_72 rfl rfl hq
      · replace h := z_iff c7 h
        refine g_aload_n dX12_parish_47 rfl rfl ?_
        obtain ⟨q13, e14, h⟩ := z_bd h
        refine g_callV (a := 137) (as := []) (rest := []) (c := mX12_readPart) (k1 := 7) dX12_parish_48 rfl rfl rfl sh_137 rfl rfl (Nat.le_of_ble_eq_true rfl) (Nat.le_of_ble_eq_true rfl) (by decide) ?_
        refine A_X12_readPart e14 ?_
        show z_G none 8 mX12_parish 51 [some (.ref 139), none] [] q13.2 Q
        refine g_aload_n dX12_parish_51 rfl rfl ?_
        refine g_aload_n dX12_parish_52 rfl rfl ?_
        refine g_bipush (v := (59 : Int32)) dX12_parish_53 (by decide) ?_
        obtain ⟨q15, e16, h⟩ := z_bd h
        refine g_callV (a := 137) (as := [.int (59 : Int32)]) (rest := [.ref 139]) (c := mX12_isSign) (k1 := 0) dX12_parish_55 rfl rfl rfl sh_137 rfl rfl (Nat.le_of_ble_eq_true rfl) (Nat.le_of_ble_eq_true rfl) (by decide) ?_
        refine A_X12_isSign e16 ?_
        show z_G none 8 mX12_parish 58 [some (.ref 139), none] [.int (z_tb q15.1), .ref 139] q15.2 Q
        obtain ⟨q17, e18, h⟩ := z_bd h
        refine g_callV (a := 137) (as := [.int (z_tb q15.1)]) (rest := []) (c := mX12_must) (k1 := 2) dX12_parish_58 rfl rfl rfl sh_137 rfl rfl (Nat.le_of_ble_eq_true rfl) (Nat.le_of_ble_eq_true rfl) (by decide) ?_
        refine A_X12_must e18 ?_
        show z_G none 8 mX12_parish 61 [some (.ref 139), none] [] q17.2 Q
        refine g_goto (t := 33) dX12_parish_61 (by decide) ?_
        exact g_sub (z_sub_s (z_sub_n z_sub_nil)) (ih _ _ _ _ h hq)
def F_X12_parish (w : Nat) (M : z_Mem) (a1 : Int32) : Option (Int32 × z_Mem) :=
  (F_X12_starts w (z_wI (z_wI M 137 1 (0 : Int32)) 137 0 (0 : Int32)) a1 (900 : Int32)).bind fun q19 =>
  if q19.1 = true then
  (F_X12_empties w q19.2 (4 : Int32)).bind fun q22 =>
  L_X12_parish w w (z_wI q22.2 137 24 (0 : Int32))
  else
  some ((-1 : Int32), q19.2)
set_option maxHeartbeats 4000000 in
theorem A_X12_parish {w : Nat} {M : z_Mem} {a1 : Int32} {r : Int32} {M' : z_Mem} {Q : Option Value → z_Mem → Prop} (h : F_X12_parish w M a1 = some (r, M')) (hq : Q (some (.int r)) M') : z_Cl 8 mX12_parish [.ref 139, .int a1] M Q := by
  refine g_in (ls := [some (.ref 139), some (.int a1)]) rfl ?_
  unfold F_X12_parish at h
  refine g_aload_n dX12_parish_0 rfl rfl ?_
  refine g_iconst (v := (0 : Int32)) dX12_parish_1 (by decide) ?_
  refine g_putI (a := 137) dX12_parish_2 f_12_57 sh_137 rfl rfl rfl ?_
  refine g_aload_n dX12_parish_5 rfl rfl ?_
  refine g_iconst (v := (0 : Int32)) dX12_parish_6 (by decide) ?_
  refine g_putI (a := 137) dX12_parish_7 f_12_60 sh_137 rfl rfl rfl ?_
  refine g_aload_n dX12_parish_10 rfl rfl ?_
  refine g_iload_n dX12_parish_11 rfl rfl ?_
  refine g_sipush (v := (900 : Int32)) dX12_parish_12 (by decide) ?_
  obtain ⟨q19, e20, h⟩ := z_bd h
  refine g_callV (a := 137) (as := [.int a1, .int (900 : Int32)]) (rest := []) (c := mX12_starts) (k1 := 2) dX12_parish_15 rfl rfl rfl sh_137 rfl rfl (Nat.le_of_ble_eq_true rfl) (Nat.le_of_ble_eq_true rfl) (by decide) ?_
  refine A_X12_starts e20 ?_
  show z_G none 8 mX12_parish 18 [some (.ref 139), some (.int a1)] [.int (z_tb q19.1)] q19.2 Q
  refine g_if_ne (t := 23) dX12_parish_18 (by decide) (fun c21 => ?_) (fun c21 => ?_)
  · replace h := z_ift (z_tbn.mp c21) h
    refine g_aload_n dX12_parish_23 rfl rfl ?_
    refine g_iconst (v := (4 : Int32)) dX12_parish_24 (by decide) ?_
    obtain ⟨q22, e23, h⟩ := z_bd h
    refine g_callV (a := 137) (as := [.int (4 : Int32)]) (rest := []) (c := mX12_empties) (k1 := 0) dX12_parish_25 rfl rfl rfl sh_137 rfl rfl (Nat.le_of_ble_eq_true rfl) (Nat.le_of_ble_eq_true rfl) (by decide) ?_
    refine A_X12_empties e23 ?_
    show z_G none 8 mX12_parish 28 [some (.ref 139), some (.int a1)] [] q22.2 Q
    refine g_aload_n dX12_parish_28 rfl rfl ?_
    refine g_iconst (v := (0 : Int32)) dX12_parish_29 (by decide) ?_
    refine g_putI (a := 137) dX12_parish_30 f_12_244 sh_137 rfl rfl rfl ?_
    exact g_sub (z_sub_s (z_sub_n z_sub_nil)) ((AL_X12_parish (w := w) w) _ _ _ _ h hq)
  · replace h := z_iff (z_tb0.mp c21) h
    refine g_iconst (v := (-1 : Int32)) dX12_parish_21 (by decide) ?_
    cases h
    exact g_iret dX12_parish_22 rfl rfl hq
theorem dX12_readTest_0 : decode cX12_readTest 0 = .ok (.aload_n 0, 1) := by decide +kernel
theorem dX12_readTest_1 : decode cX12_readTest 1 = .ok (.invokevirtual 206, 3) := by decide +kernel
theorem dX12_readTest_4 : decode cX12_readTest 4 = .ok (.istore_n 2, 1) := by decide +kernel
theorem dX12_readTest_5 : decode cX12_readTest 5 = .ok (.aload_n 0, 1) := by decide +kernel
theorem dX12_readTest_6 : decode cX12_readTest 6 = .ok (.iload_n 2, 1) := by decide +kernel
theorem dX12_readTest_7 : decode cX12_readTest 7 = .ok (.ifCond .lt 7, 3) := by decide +kernel
theorem dX12_readTest_10 : decode cX12_readTest 10 = .ok (.iconst 1, 1) := by decide +kernel
theorem dX12_readTest_11 : decode cX12_readTest 11 = .ok (.goto 4, 3) := by decide +kernel
theorem dX12_readTest_14 : decode cX12_readTest 14 = .ok (.iconst 0, 1) := by decide +kernel
theorem dX12_readTest_15 : decode cX12_readTest 15 = .ok (.invokevirtual 228, 3) := by decide +kernel
theorem dX12_readTest_18 : decode cX12_readTest 18 = .ok (.aload_n 0, 1) := by decide +kernel
theorem dX12_readTest_19 : decode cX12_readTest 19 = .ok (.getfield 35, 3) := by decide +kernel
theorem dX12_readTest_22 : decode cX12_readTest 22 = .ok (.iload_n 1, 1) := by decide +kernel
theorem dX12_readTest_23 : decode cX12_readTest 23 = .ok (.iconst 5, 1) := by decide +kernel
theorem dX12_readTest_24 : decode cX12_readTest 24 = .ok (.iadd, 1) := by decide +kernel
theorem dX12_readTest_25 : decode cX12_readTest 25 = .ok (.iload_n 2, 1) := by decide +kernel
theorem dX12_readTest_26 : decode cX12_readTest 26 = .ok (.iastore, 1) := by decide +kernel
theorem dX12_readTest_27 : decode cX12_readTest 27 = .ok (.aload_n 0, 1) := by decide +kernel
theorem dX12_readTest_28 : decode cX12_readTest 28 = .ok (.getfield 35, 3) := by decide +kernel
theorem dX12_readTest_31 : decode cX12_readTest 31 = .ok (.iload_n 1, 1) := by decide +kernel
theorem dX12_readTest_32 : decode cX12_readTest 32 = .ok (.iconst 1, 1) := by decide +kernel
theorem dX12_readTest_33 : decode cX12_readTest 33 = .ok (.iadd, 1) := by decide +kernel
theorem dX12_readTest_34 : decode cX12_readTest 34 = .ok (.aload_n 0, 1) := by decide +kernel
theorem dX12_readTest_35 : decode cX12_readTest 35 = .ok (.invokevirtual 250, 3) := by decide +kernel
theorem dX12_readTest_38 : decode cX12_readTest 38 = .ok (.iastore, 1) := by decide +kernel
theorem dX12_readTest_39 : decode cX12_readTest 39 = .ok (.aload_n 0, 1) := by decide +kernel
theorem dX12_readTest_40 : decode cX12_readTest 40 = .ok (.getfield 212, 3) := by decide +kernel
theorem dX12_readTest_43 : decode cX12_readTest 43 = .ok (.ifCond .gt 8, 3) := by decide +kernel
theorem dX12_readTest_46 : decode cX12_readTest 46 = .ok (.iload_n 2, 1) := by decide +kernel
theorem dX12_readTest_47 : decode cX12_readTest 47 = .ok (.iconst 1, 1) := by decide +kernel
theorem dX12_readTest_48 : decode cX12_readTest 48 = .ok (.if_icmp .eq 4, 3) := by decide +kernel
theorem dX12_readTest_51 : decode cX12_readTest 51 = .ok (.return_, 1) := by decide +kernel
theorem dX12_readTest_52 : decode cX12_readTest 52 = .ok (.aload_n 0, 1) := by decide +kernel
theorem dX12_readTest_53 : decode cX12_readTest 53 = .ok (.getfield 35, 3) := by decide +kernel
theorem dX12_readTest_56 : decode cX12_readTest 56 = .ok (.iload_n 1, 1) := by decide +kernel
theorem dX12_readTest_57 : decode cX12_readTest 57 = .ok (.bipush 7, 2) := by decide +kernel
theorem dX12_readTest_59 : decode cX12_readTest 59 = .ok (.iadd, 1) := by decide +kernel
theorem dX12_readTest_60 : decode cX12_readTest 60 = .ok (.aload_n 0, 1) := by decide +kernel
theorem dX12_readTest_61 : decode cX12_readTest 61 = .ok (.getfield 112, 3) := by decide +kernel
theorem dX12_readTest_64 : decode cX12_readTest 64 = .ok (.iconst 3, 1) := by decide +kernel
theorem dX12_readTest_65 : decode cX12_readTest 65 = .ok (.if_icmp .ne 10, 3) := by decide +kernel
theorem dX12_readTest_68 : decode cX12_readTest 68 = .ok (.aload_n 0, 1) := by decide +kernel
theorem dX12_readTest_69 : decode cX12_readTest 69 = .ok (.getfield 131, 3) := by decide +kernel
theorem dX12_readTest_72 : decode cX12_readTest 72 = .ok (.goto 4, 3) := by decide +kernel
theorem dX12_readTest_75 : decode cX12_readTest 75 = .ok (.iconst 0, 1) := by decide +kernel
theorem dX12_readTest_76 : decode cX12_readTest 76 = .ok (.iastore, 1) := by decide +kernel
theorem dX12_readTest_77 : decode cX12_readTest 77 = .ok (.aload_n 0, 1) := by decide +kernel
theorem dX12_readTest_78 : decode cX12_readTest 78 = .ok (.aload_n 0, 1) := by decide +kernel
theorem dX12_readTest_79 : decode cX12_readTest 79 = .ok (.bipush 60, 2) := by decide +kernel
theorem dX12_readTest_81 : decode cX12_readTest 81 = .ok (.invokevirtual 310, 3) := by decide +kernel
theorem dX12_readTest_84 : decode cX12_readTest 84 = .ok (.ifCond .ne 21, 3) := by decide +kernel
theorem dX12_readTest_87 : decode cX12_readTest 87 = .ok (.aload_n 0, 1) := by decide +kernel
theorem dX12_readTest_88 : decode cX12_readTest 88 = .ok (.bipush 62, 2) := by decide +kernel
theorem dX12_readTest_90 : decode cX12_readTest 90 = .ok (.invokevirtual 310, 3) := by decide +kernel
theorem dX12_readTest_93 : decode cX12_readTest 93 = .ok (.ifCond .ne 12, 3) := by decide +kernel
theorem dX12_readTest_96 : decode cX12_readTest 96 = .ok (.aload_n 0, 1) := by decide +kernel
theorem dX12_readTest_97 : decode cX12_readTest 97 = .ok (.bipush 61, 2) := by decide +kernel
theorem dX12_readTest_99 : decode cX12_readTest 99 = .ok (.invokevirtual 310, 3) := by decide +kernel
theorem dX12_readTest_102 : decode cX12_readTest 102 = .ok (.ifCond .eq 7, 3) := by decide +kernel
theorem dX12_readTest_105 : decode cX12_readTest 105 = .ok (.iconst 1, 1) := by decide +kernel
theorem dX12_readTest_106 : decode cX12_readTest 106 = .ok (.goto 4, 3) := by decide +kernel
theorem dX12_readTest_109 : decode cX12_readTest 109 = .ok (.iconst 0, 1) := by decide +kernel
theorem dX12_readTest_110 : decode cX12_readTest 110 = .ok (.invokevirtual 228, 3) := by decide +kernel
theorem dX12_readTest_113 : decode cX12_readTest 113 = .ok (.aload_n 0, 1) := by decide +kernel
theorem dX12_readTest_114 : decode cX12_readTest 114 = .ok (.getfield 35, 3) := by decide +kernel
theorem dX12_readTest_117 : decode cX12_readTest 117 = .ok (.iload_n 1, 1) := by decide +kernel
theorem dX12_readTest_118 : decode cX12_readTest 118 = .ok (.bipush 6, 2) := by decide +kernel
theorem dX12_readTest_120 : decode cX12_readTest 120 = .ok (.iadd, 1) := by decide +kernel
theorem dX12_readTest_121 : decode cX12_readTest 121 = .ok (.aload_n 0, 1) := by decide +kernel
theorem dX12_readTest_122 : decode cX12_readTest 122 = .ok (.iconst 0, 1) := by decide +kernel
theorem dX12_readTest_123 : decode cX12_readTest 123 = .ok (.sipush 9999, 3) := by decide +kernel
theorem dX12_readTest_126 : decode cX12_readTest 126 = .ok (.invokevirtual 232, 3) := by decide +kernel
theorem dX12_readTest_129 : decode cX12_readTest 129 = .ok (.iastore, 1) := by decide +kernel
theorem dX12_readTest_130 : decode cX12_readTest 130 = .ok (.return_, 1) := by decide +kernel
def F_X12_readTest (w : Nat) (M : z_Mem) (a1 : Int32) : Option (Unit × z_Mem) :=
  (F_X12_testWord w M).bind fun q1 =>
  if q1.1 < (0 : Int32) then
  (F_X12_must w q1.2 (0 : Int32)).bind fun q4 =>
  if (a1 + (5 : Int32)) < 0 ∨ 1875 ≤ (a1 + (5 : Int32)).toNatClampNeg then none else
  (F_X12_readSide w (z_wI q4.2 142 ((a1 + (5 : Int32)).toNatClampNeg) q1.1)).bind fun q7 =>
  if (a1 + (1 : Int32)) < 0 ∨ 1875 ≤ (a1 + (1 : Int32)).toNatClampNeg then none else
  if (0 : Int32) < (q7.2.1 137 12) then
  some ((), (z_wI q7.2 142 ((a1 + (1 : Int32)).toNatClampNeg) q7.1))
  else
  if q1.1 = (1 : Int32) then
  if (q7.2.1 137 14) = (3 : Int32) then
  if (a1 + (7 : Int32)) < 0 ∨ 1875 ≤ (a1 + (7 : Int32)).toNatClampNeg then none else
  (F_X12_isSign w (z_wI (z_wI q7.2 142 ((a1 + (1 : Int32)).toNatClampNeg) q7.1) 142 ((a1 + (7 : Int32)).toNatClampNeg) (q7.2.1 137 17)) (60 : Int32)).bind fun q44 =>
  if q44.1 = true then
  (F_X12_must w q44.2 (1 : Int32)).bind fun q47 =>
  (F_X12_count w q47.2 (0 : Int32) (9999 : Int32)).bind fun q49 =>
  if (a1 + (6 : Int32)) < 0 ∨ 1875 ≤ (a1 + (6 : Int32)).toNatClampNeg then none else
  some ((), (z_wI q49.2 142 ((a1 + (6 : Int32)).toNatClampNeg) q49.1))
  else
  (F_X12_isSign w q44.2 (62 : Int32)).bind fun q52 =>
  if q52.1 = true then
  (F_X12_must w q52.2 (1 : Int32)).bind fun q55 =>
  (F_X12_count w q55.2 (0 : Int32) (9999 : Int32)).bind fun q57 =>
  if (a1 + (6 : Int32)) < 0 ∨ 1875 ≤ (a1 + (6 : Int32)).toNatClampNeg then none else
  some ((), (z_wI q57.2 142 ((a1 + (6 : Int32)).toNatClampNeg) q57.1))
  else
  (F_X12_isSign w q52.2 (61 : Int32)).bind fun q60 =>
  if q60.1 = true then
  (F_X12_must w q60.2 (1 : Int32)).bind fun q68 =>
  (F_X12_count w q68.2 (0 : Int32) (9999 : Int32)).bind fun q70 =>
  if (a1 + (6 : Int32)) < 0 ∨ 1875 ≤ (a1 + (6 : Int32)).toNatClampNeg then none else
  some ((), (z_wI q70.2 142 ((a1 + (6 : Int32)).toNatClampNeg) q70.1))
  else
  (F_X12_must w q60.2 (0 : Int32)).bind fun q63 =>
  (F_X12_count w q63.2 (0 : Int32) (9999 : Int32)).bind fun q65 =>
  if (a1 + (6 : Int32)) < 0 ∨ 1875 ≤ (a1 + (6 : Int32)).toNatClampNeg then none else
  some ((), (z_wI q65.2 142 ((a1 + (6 : Int32)).toNatClampNeg) q65.1))
  else
  if (a1 + (7 : Int32)) < 0 ∨ 1875 ≤ (a1 + (7 : Int32)).toNatClampNeg then none else
  (F_X12_isSign w (z_wI (z_wI q7.2 142 ((a1 + (1 : Int32)).toNatClampNeg) q7.1) 142 ((a1 + (7 : Int32)).toNatClampNeg) (0 : Int32)) (60 : Int32)).bind fun q14 =>
  if q14.1 = true then
  (F_X12_must w q14.2 (1 : Int32)).bind fun q17 =>
  (F_X12_count w q17.2 (0 : Int32) (9999 : Int32)).bind fun q19 =>
  if (a1 + (6 : Int32)) < 0 ∨ 1875 ≤ (a1 + (6 : Int32)).toNatClampNeg then none else
  some ((), (z_wI q19.2 142 ((a1 + (6 : Int32)).toNatClampNeg) q19.1))
  else
  (F_X12_isSign w q14.2 (62 : Int32)).bind fun q22 =>
  if q22.1 = true then
  (F_X12_must w q22.2 (1 : Int32)).bind fun q25 =>
  (F_X12_count w q25.2 (0 : Int32) (9999 : Int32)).bind fun q27 =>
  if (a1 + (6 : Int32)) < 0 ∨ 1875 ≤ (a1 + (6 : Int32)).toNatClampNeg then none else
  some ((), (z_wI q27.2 142 ((a1 + (6 : Int32)).toNatClampNeg) q27.1))
  else
  (F_X12_isSign w q22.2 (61 : Int32)).bind fun q30 =>
  if q30.1 = true then
  (F_X12_must w q30.2 (1 : Int32)).bind fun q38 =>
  (F_X12_count w q38.2 (0 : Int32) (9999 : Int32)).bind fun q40 =>
  if (a1 + (6 : Int32)) < 0 ∨ 1875 ≤ (a1 + (6 : Int32)).toNatClampNeg then none else
  some ((), (z_wI q40.2 142 ((a1 + (6 : Int32)).toNatClampNeg) q40.1))
  else
  (F_X12_must w q30.2 (0 : Int32)).bind fun q33 =>
  (F_X12_count w q33.2 (0 : Int32) (9999 : Int32)).bind fun q35 =>
  if (a1 + (6 : Int32)) < 0 ∨ 1875 ≤ (a1 + (6 : Int32)).toNatClampNeg then none else
  some ((), (z_wI q35.2 142 ((a1 + (6 : Int32)).toNatClampNeg) q35.1))
  else
  some ((), (z_wI q7.2 142 ((a1 + (1 : Int32)).toNatClampNeg) q7.1))
  else
  (F_X12_must w q1.2 (1 : Int32)).bind fun q73 =>
  if (a1 + (5 : Int32)) < 0 ∨ 1875 ≤ (a1 + (5 : Int32)).toNatClampNeg then none else
  (F_X12_readSide w (z_wI q73.2 142 ((a1 + (5 : Int32)).toNatClampNeg) q1.1)).bind fun q76 =>
  if (a1 + (1 : Int32)) < 0 ∨ 1875 ≤ (a1 + (1 : Int32)).toNatClampNeg then none else
  if (0 : Int32) < (q76.2.1 137 12) then
  some ((), (z_wI q76.2 142 ((a1 + (1 : Int32)).toNatClampNeg) q76.1))
  else
  if q1.1 = (1 : Int32) then
  if (q76.2.1 137 14) = (3 : Int32) then
  if (a1 + (7 : Int32)) < 0 ∨ 1875 ≤ (a1 + (7 : Int32)).toNatClampNeg then none else
  (F_X12_isSign w (z_wI (z_wI q76.2 142 ((a1 + (1 : Int32)).toNatClampNeg) q76.1) 142 ((a1 + (7 : Int32)).toNatClampNeg) (q76.2.1 137 17)) (60 : Int32)).bind fun q113 =>
  if q113.1 = true then
  (F_X12_must w q113.2 (1 : Int32)).bind fun q116 =>
  (F_X12_count w q116.2 (0 : Int32) (9999 : Int32)).bind fun q118 =>
  if (a1 + (6 : Int32)) < 0 ∨ 1875 ≤ (a1 + (6 : Int32)).toNatClampNeg then none else
  some ((), (z_wI q118.2 142 ((a1 + (6 : Int32)).toNatClampNeg) q118.1))
  else
  (F_X12_isSign w q113.2 (62 : Int32)).bind fun q121 =>
  if q121.1 = true then
  (F_X12_must w q121.2 (1 : Int32)).bind fun q124 =>
  (F_X12_count w q124.2 (0 : Int32) (9999 : Int32)).bind fun q126 =>
  if (a1 + (6 : Int32)) < 0 ∨ 1875 ≤ (a1 + (6 : Int32)).toNatClampNeg then none else
  some ((), (z_wI q126.2 142 ((a1 + (6 : Int32)).toNatClampNeg) q126.1))
  else
  (F_X12_isSign w q121.2 (61 : Int32)).bind fun q129 =>
  if q129.1 = true then
  (F_X12_must w q129.2 (1 : Int32)).bind fun q137 =>
  (F_X12_count w q137.2 (0 : Int32) (9999 : Int32)).bind fun q139 =>
  if (a1 + (6 : Int32)) < 0 ∨ 1875 ≤ (a1 + (6 : Int32)).toNatClampNeg then none else
  some ((), (z_wI q139.2 142 ((a1 + (6 : Int32)).toNatClampNeg) q139.1))
  else
  (F_X12_must w q129.2 (0 : Int32)).bind fun q132 =>
  (F_X12_count w q132.2 (0 : Int32) (9999 : Int32)).bind fun q134 =>
  if (a1 + (6 : Int32)) < 0 ∨ 1875 ≤ (a1 + (6 : Int32)).toNatClampNeg then none else
  some ((), (z_wI q134.2 142 ((a1 + (6 : Int32)).toNatClampNeg) q134.1))
  else
  if (a1 + (7 : Int32)) < 0 ∨ 1875 ≤ (a1 + (7 : Int32)).toNatClampNeg then none else
  (F_X12_isSign w (z_wI (z_wI q76.2 142 ((a1 + (1 : Int32)).toNatClampNeg) q76.1) 142 ((a1 + (7 : Int32)).toNatClampNeg) (0 : Int32)) (60 : Int32)).bind fun q83 =>
  if q83.1 = true then
  (F_X12_must w q83.2 (1 : Int32)).bind fun q86 =>
  (F_X12_count w q86.2 (0 : Int32) (9999 : Int32)).bind fun q88 =>
  if (a1 + (6 : Int32)) < 0 ∨ 1875 ≤ (a1 + (6 : Int32)).toNatClampNeg then none else
  some ((), (z_wI q88.2 142 ((a1 + (6 : Int32)).toNatClampNeg) q88.1))
  else
  (F_X12_isSign w q83.2 (62 : Int32)).bind fun q91 =>
  if q91.1 = true then
  (F_X12_must w q91.2 (1 : Int32)).bind fun q94 =>
  (F_X12_count w q94.2 (0 : Int32) (9999 : Int32)).bind fun q96 =>
  if (a1 + (6 : Int32)) < 0 ∨ 1875 ≤ (a1 + (6 : Int32)).toNatClampNeg then none else
  some ((), (z_wI q96.2 142 ((a1 + (6 : Int32)).toNatClampNeg) q96.1))
  else
  (F_X12_isSign w q91.2 (61 : Int32)).bind fun q99 =>
  if q99.1 = true then
  (F_X12_must w q99.2 (1 : Int32)).bind fun q107 =>
  (F_X12_count w q107.2 (0 : Int32) (9999 : Int32)).bind fun q109 =>
  if (a1 + (6 : Int32)) < 0 ∨ 1875 ≤ (a1 + (6 : Int32)).toNatClampNeg then none else
  some ((), (z_wI q109.2 142 ((a1 + (6 : Int32)).toNatClampNeg) q109.1))
  else
  (F_X12_must w q99.2 (0 : Int32)).bind fun q102 =>
  (F_X12_count w q102.2 (0 : Int32) (9999 : Int32)).bind fun q104 =>
  if (a1 + (6 : Int32)) < 0 ∨ 1875 ≤ (a1 + (6 : Int32)).toNatClampNeg then none else
  some ((), (z_wI q104.2 142 ((a1 + (6 : Int32)).toNatClampNeg) q104.1))
  else
  some ((), (z_wI q76.2 142 ((a1 + (1 : Int32)).toNatClampNeg) q76.1))
set_option maxHeartbeats 4000000 in
theorem A_X12_readTest {w : Nat} {M : z_Mem} {a1 : Int32} {r : Unit} {M' : z_Mem} {Q : Option Value → z_Mem → Prop} (h : F_X12_readTest w M a1 = some (r, M')) (hq : Q none M') : z_Cl 4 mX12_readTest [.ref 139, .int a1] M Q := by
  refine g_in (ls := [some (.ref 139), some (.int a1), none]) rfl ?_
  unfold F_X12_readTest at h
  refine g_aload_n dX12_readTest_0 rfl rfl ?_
  obtain ⟨q1, e2, h⟩ := z_bd h
  refine g_callV (a := 137) (as := []) (rest := []) (c := mX12_testWord) (k1 := 2) dX12_readTest_1 rfl rfl rfl sh_137 rfl rfl (Nat.le_of_ble_eq_true rfl) (Nat.le_of_ble_eq_true rfl) (by decide) ?_
  refine A_X12_testWord e2 ?_
  show z_G none 4 mX12_readTest 4 [some (.ref 139), some (.int a1), none] [.int q1.1] q1.2 Q
  refine g_istore_n (ls' := [some (.ref 139), some (.int a1), some (.int q1.1)]) dX12_readTest_4 rfl (Nat.le_of_ble_eq_true rfl) rfl ?_
  refine g_aload_n dX12_readTest_5 rfl rfl ?_
  refine g_iload_n dX12_readTest_6 rfl rfl ?_
  refine g_if_lt (t := 14) dX12_readTest_7 (by decide) (fun c3 => ?_) (fun c3 => ?_)
  · replace h := z_ift c3 h
    refine g_iconst (v := (0 : Int32)) dX12_readTest_14 (by decide) ?_
    obtain ⟨q4, e5, h⟩ := z_bd h
    refine g_callV (a := 137) (as := [.int (0 : Int32)]) (rest := []) (c := mX12_must) (k1 := 2) dX12_readTest_15 rfl rfl rfl sh_137 rfl rfl (Nat.le_of_ble_eq_true rfl) (Nat.le_of_ble_eq_true rfl) (by decide) ?_
    refine A_X12_must e5 ?_
    show z_G none 4 mX12_readTest 18 [some (.ref 139), some (.int a1), some (.int q1.1)] [] q4.2 Q
    refine g_aload_n dX12_readTest_18 rfl rfl ?_
    refine g_get (a := 137) (v := .ref 144) dX12_readTest_19 f_12_35 sh_137 rfl rfl ?_
    refine g_iload_n dX12_readTest_22 rfl rfl ?_
    refine g_iconst (v := (5 : Int32)) dX12_readTest_23 (by decide) ?_
    refine g_iadd dX12_readTest_24 ?_
    refine g_iload_n dX12_readTest_25 rfl rfl ?_
    by_cases g6 : (a1 + (5 : Int32)) < 0 ∨ 1875 ≤ (a1 + (5 : Int32)).toNatClampNeg
    · rw [if_pos g6] at h; cases h
    replace h := z_iff g6 h
    refine g_iast (a := 142) dX12_readTest_26 sh_142 g6 ?_
    refine g_aload_n dX12_readTest_27 rfl rfl ?_
    refine g_get (a := 137) (v := .ref 144) dX12_readTest_28 f_12_35 sh_137 rfl rfl ?_
    refine g_iload_n dX12_readTest_31 rfl rfl ?_
    refine g_iconst (v := (1 : Int32)) dX12_readTest_32 (by decide) ?_
    refine g_iadd dX12_readTest_33 ?_
    refine g_aload_n dX12_readTest_34 rfl rfl ?_
    obtain ⟨q7, e8, h⟩ := z_bd h
    refine g_callV (a := 137) (as := []) (rest := [.int (a1 + (1 : Int32)), .ref 144]) (c := mX12_readSide) (k1 := 3) dX12_readTest_35 rfl rfl rfl sh_137 rfl rfl (Nat.le_of_ble_eq_true rfl) (Nat.le_of_ble_eq_true rfl) (by decide) ?_
    refine A_X12_readSide e8 ?_
    show z_G none 4 mX12_readTest 38 [some (.ref 139), some (.int a1), some (.int q1.1)] [.int q7.1, .int (a1 + (1 : Int32)), .ref 144] q7.2 Q
    by_cases g9 : (a1 + (1 : Int32)) < 0 ∨ 1875 ≤ (a1 + (1 : Int32)).toNatClampNeg
    · rw [if_pos g9] at h; cases h
    replace h := z_iff g9 h
    refine g_iast (a := 142) dX12_readTest_38 sh_142 g9 ?_
    refine g_aload_n dX12_readTest_39 rfl rfl ?_
    refine g_get (a := 137) (v := .int (q7.2.1 137 12)) dX12_readTest_40 f_12_212 sh_137 rfl (by simp [z_fv, z_wI, z_wL, z_wLs, upd, vp_updL]) ?_
    refine g_if_gt (t := 51) dX12_readTest_43 (by decide) (fun c10 => ?_) (fun c10 => ?_)
    · replace h := z_ift c10 h
      cases h
      exact g_vret dX12_readTest_51 rfl hq
    · replace h := z_iff c10 h
      refine g_iload_n dX12_readTest_46 rfl rfl ?_
      refine g_iconst (v := (1 : Int32)) dX12_readTest_47 (by decide) ?_
      refine g_ic_eq (t := 52) dX12_readTest_48 (by decide) (fun c11 => ?_) (fun c11 => ?_)
      · replace h := z_ift c11 h
        refine g_aload_n dX12_readTest_52 rfl rfl ?_
        refine g_get (a := 137) (v := .ref 144) dX12_readTest_53 f_12_35 sh_137 rfl rfl ?_
        refine g_iload_n dX12_readTest_56 rfl rfl ?_
        refine g_bipush (v := (7 : Int32)) dX12_readTest_57 (by decide) ?_
        refine g_iadd dX12_readTest_59 ?_
        refine g_aload_n dX12_readTest_60 rfl rfl ?_
        refine g_get (a := 137) (v := .int (q7.2.1 137 14)) dX12_readTest_61 f_12_112 sh_137 rfl (by simp [z_fv, z_wI, z_wL, z_wLs, upd, vp_updL]) ?_
        refine g_iconst (v := (3 : Int32)) dX12_readTest_64 (by decide) ?_
        refine g_ic_ne (t := 75) dX12_readTest_65 (by decide) (fun c12 => ?_) (fun c12 => ?_)
        · replace h := z_iff c12 h
          refine g_iconst (v := (0 : Int32)) dX12_readTest_75 (by decide) ?_
          by_cases g13 : (a1 + (7 : Int32)) < 0 ∨ 1875 ≤ (a1 + (7 : Int32)).toNatClampNeg
          · rw [if_pos g13] at h; cases h
          replace h := z_iff g13 h
          refine g_iast (a := 142) dX12_readTest_76 sh_142 g13 ?_
          refine g_aload_n dX12_readTest_77 rfl rfl ?_
          refine g_aload_n dX12_readTest_78 rfl rfl ?_
          refine g_bipush (v := (60 : Int32)) dX12_readTest_79 (by decide) ?_
          obtain ⟨q14, e15, h⟩ := z_bd h
          refine g_callV (a := 137) (as := [.int (60 : Int32)]) (rest := [.ref 139]) (c := mX12_isSign) (k1 := 0) dX12_readTest_81 rfl rfl rfl sh_137 rfl rfl (Nat.le_of_ble_eq_true rfl) (Nat.le_of_ble_eq_true rfl) (by decide) ?_
          refine A_X12_isSign e15 ?_
          show z_G none 4 mX12_readTest 84 [some (.ref 139), some (.int a1), some (.int q1.1)] [.int (z_tb q14.1), .ref 139] q14.2 Q
          refine g_if_ne (t := 105) dX12_readTest_84 (by decide) (fun c16 => ?_) (fun c16 => ?_)
          · replace h := z_ift (z_tbn.mp c16) h
            refine g_iconst (v := (1 : Int32)) dX12_readTest_105 (by decide) ?_
            refine g_goto (t := 110) dX12_readTest_106 (by decide) ?_
            obtain ⟨q17, e18, h⟩ := z_bd h
            refine g_callV (a := 137) (as := [.int (1 : Int32)]) (rest := []) (c := mX12_must) (k1 := 2) dX12_readTest_110 rfl rfl rfl sh_137 rfl rfl (Nat.le_of_ble_eq_true rfl) (Nat.le_of_ble_eq_true rfl) (by decide) ?_
            refine A_X12_must e18 ?_
            show z_G none 4 mX12_readTest 113 [some (.ref 139), some (.int a1), some (.int q1.1)] [] q17.2 Q
            refine g_aload_n dX12_readTest_113 rfl rfl ?_
            refine g_get (a := 137) (v := .ref 144) dX12_readTest_114 f_12_35 sh_137 rfl rfl ?_
            refine g_iload_n dX12_readTest_117 rfl rfl ?_
            refine g_bipush (v := (6 : Int32)) dX12_readTest_118 (by decide) ?_
            refine g_iadd dX12_readTest_120 ?_
            refine g_aload_n dX12_readTest_121 rfl rfl ?_
            refine g_iconst (v := (0 : Int32)) dX12_readTest_122 (by decide) ?_
            refine g_sipush (v := (9999 : Int32)) dX12_readTest_123 (by decide) ?_
            obtain ⟨q19, e20, h⟩ := z_bd h
            refine g_callV (a := 137) (as := [.int (0 : Int32), .int (9999 : Int32)]) (rest := [.int (a1 + (6 : Int32)), .ref 144]) (c := mX12_count) (k1 := 2) dX12_readTest_126 rfl rfl rfl sh_137 rfl rfl (Nat.le_of_ble_eq_true rfl) (Nat.le_of_ble_eq_true rfl) (by decide) ?_
            refine A_X12_count e20 ?_
            show z_G none 4 mX12_readTest 129 [some (.ref 139), some (.int a1), some (.int q1.1)] [.int q19.1, .int (a1 + (6 : Int32)), .ref 144] q19.2 Q
            by_cases g21 : (a1 + (6 : Int32)) < 0 ∨ 1875 ≤ (a1 + (6 : Int32)).toNatClampNeg
            · rw [if_pos g21] at h; cases h
            replace h := z_iff g21 h
            refine g_iast (a := 142) dX12_readTest_129 sh_142 g21 ?_
            cases h
            exact g_vret dX12_readTest_130 rfl hq
          · replace h := z_iff (z_tb0.mp c16) h
            refine g_aload_n dX12_readTest_87 rfl rfl ?_
            refine g_bipush (v := (62 : Int32)) dX12_readTest_88 (by decide) ?_
            obtain ⟨q22, e23, h⟩ := z_bd h
            refine g_callV (a := 137) (as := [.int (62 : Int32)]) (rest := [.ref 139]) (c := mX12_isSign) (k1 := 0) dX12_readTest_90 rfl rfl rfl sh_137 rfl rfl (Nat.le_of_ble_eq_true rfl) (Nat.le_of_ble_eq_true rfl) (by decide) ?_
            refine A_X12_isSign e23 ?_
            show z_G none 4 mX12_readTest 93 [some (.ref 139), some (.int a1), some (.int q1.1)] [.int (z_tb q22.1), .ref 139] q22.2 Q
            refine g_if_ne (t := 105) dX12_readTest_93 (by decide) (fun c24 => ?_) (fun c24 => ?_)
            · replace h := z_ift (z_tbn.mp c24) h
              refine g_iconst (v := (1 : Int32)) dX12_readTest_105 (by decide) ?_
              refine g_goto (t := 110) dX12_readTest_106 (by decide) ?_
              obtain ⟨q25, e26, h⟩ := z_bd h
              refine g_callV (a := 137) (as := [.int (1 : Int32)]) (rest := []) (c := mX12_must) (k1 := 2) dX12_readTest_110 rfl rfl rfl sh_137 rfl rfl (Nat.le_of_ble_eq_true rfl) (Nat.le_of_ble_eq_true rfl) (by decide) ?_
              refine A_X12_must e26 ?_
              show z_G none 4 mX12_readTest 113 [some (.ref 139), some (.int a1), some (.int q1.1)] [] q25.2 Q
              refine g_aload_n dX12_readTest_113 rfl rfl ?_
              refine g_get (a := 137) (v := .ref 144) dX12_readTest_114 f_12_35 sh_137 rfl rfl ?_
              refine g_iload_n dX12_readTest_117 rfl rfl ?_
              refine g_bipush (v := (6 : Int32)) dX12_readTest_118 (by decide) ?_
              refine g_iadd dX12_readTest_120 ?_
              refine g_aload_n dX12_readTest_121 rfl rfl ?_
              refine g_iconst (v := (0 : Int32)) dX12_readTest_122 (by decide) ?_
              refine g_sipush (v := (9999 : Int32)) dX12_readTest_123 (by decide) ?_
              obtain ⟨q27, e28, h⟩ := z_bd h
              refine g_callV (a := 137) (as := [.int (0 : Int32), .int (9999 : Int32)]) (rest := [.int (a1 + (6 : Int32)), .ref 144]) (c := mX12_count) (k1 := 2) dX12_readTest_126 rfl rfl rfl sh_137 rfl rfl (Nat.le_of_ble_eq_true rfl) (Nat.le_of_ble_eq_true rfl) (by decide) ?_
              refine A_X12_count e28 ?_
              show z_G none 4 mX12_readTest 129 [some (.ref 139), some (.int a1), some (.int q1.1)] [.int q27.1, .int (a1 + (6 : Int32)), .ref 144] q27.2 Q
              by_cases g29 : (a1 + (6 : Int32)) < 0 ∨ 1875 ≤ (a1 + (6 : Int32)).toNatClampNeg
              · rw [if_pos g29] at h; cases h
              replace h := z_iff g29 h
              refine g_iast (a := 142) dX12_readTest_129 sh_142 g29 ?_
              cases h
              exact g_vret dX12_readTest_130 rfl hq
            · replace h := z_iff (z_tb0.mp c24) h
              refine g_aload_n dX12_readTest_96 rfl rfl ?_
              refine g_bipush (v := (61 : Int32)) dX12_readTest_97 (by decide) ?_
              obtain ⟨q30, e31, h⟩ := z_bd h
              refine g_callV (a := 137) (as := [.int (61 : Int32)]) (rest := [.ref 139]) (c := mX12_isSign) (k1 := 0) dX12_readTest_99 rfl rfl rfl sh_137 rfl rfl (Nat.le_of_ble_eq_true rfl) (Nat.le_of_ble_eq_true rfl) (by decide) ?_
              refine A_X12_isSign e31 ?_
              show z_G none 4 mX12_readTest 102 [some (.ref 139), some (.int a1), some (.int q1.1)] [.int (z_tb q30.1), .ref 139] q30.2 Q
              refine g_if_eq (t := 109) dX12_readTest_102 (by decide) (fun c32 => ?_) (fun c32 => ?_)
              · replace h := z_iff (z_tb0.mp c32) h
                refine g_iconst (v := (0 : Int32)) dX12_readTest_109 (by decide) ?_
                obtain ⟨q33, e34, h⟩ := z_bd h
                refine g_callV (a := 137) (as := [.int (0 : Int32)]) (rest := []) (c := mX12_must) (k1 := 2) dX12_readTest_110 rfl rfl rfl sh_137 rfl rfl (Nat.le_of_ble_eq_true rfl) (Nat.le_of_ble_eq_true rfl) (by decide) ?_
                refine A_X12_must e34 ?_
                show z_G none 4 mX12_readTest 113 [some (.ref 139), some (.int a1), some (.int q1.1)] [] q33.2 Q
                refine g_aload_n dX12_readTest_113 rfl rfl ?_
                refine g_get (a := 137) (v := .ref 144) dX12_readTest_114 f_12_35 sh_137 rfl rfl ?_
                refine g_iload_n dX12_readTest_117 rfl rfl ?_
                refine g_bipush (v := (6 : Int32)) dX12_readTest_118 (by decide) ?_
                refine g_iadd dX12_readTest_120 ?_
                refine g_aload_n dX12_readTest_121 rfl rfl ?_
                refine g_iconst (v := (0 : Int32)) dX12_readTest_122 (by decide) ?_
                refine g_sipush (v := (9999 : Int32)) dX12_readTest_123 (by decide) ?_
                obtain ⟨q35, e36, h⟩ := z_bd h
                refine g_callV (a := 137) (as := [.int (0 : Int32), .int (9999 : Int32)]) (rest := [.int (a1 + (6 : Int32)), .ref 144]) (c := mX12_count) (k1 := 2) dX12_readTest_126 rfl rfl rfl sh_137 rfl rfl (Nat.le_of_ble_eq_true rfl) (Nat.le_of_ble_eq_true rfl) (by decide) ?_
                refine A_X12_count e36 ?_
                show z_G none 4 mX12_readTest 129 [some (.ref 139), some (.int a1), some (.int q1.1)] [.int q35.1, .int (a1 + (6 : Int32)), .ref 144] q35.2 Q
                by_cases g37 : (a1 + (6 : Int32)) < 0 ∨ 1875 ≤ (a1 + (6 : Int32)).toNatClampNeg
                · rw [if_pos g37] at h; cases h
                replace h := z_iff g37 h
                refine g_iast (a := 142) dX12_readTest_129 sh_142 g37 ?_
                cases h
                exact g_vret dX12_readTest_130 rfl hq
              · replace h := z_ift (z_tbn.mp c32) h
                refine g_iconst (v := (1 : Int32)) dX12_readTest_105 (by decide) ?_
                refine g_goto (t := 110) dX12_readTest_106 (by decide) ?_
                obtain ⟨q38, e39, h⟩ := z_bd h
                refine g_callV (a := 137) (as := [.int (1 : Int32)]) (rest := []) (c := mX12_must) (k1 := 2) dX12_readTest_110 rfl rfl rfl sh_137 rfl rfl (Nat.le_of_ble_eq_true rfl) (Nat.le_of_ble_eq_true rfl) (by decide) ?_
                refine A_X12_must e39 ?_
                show z_G none 4 mX12_readTest 113 [some (.ref 139), some (.int a1), some (.int q1.1)] [] q38.2 Q
                refine g_aload_n dX12_readTest_113 rfl rfl ?_
                refine g_get (a := 137) (v := .ref 144) dX12_readTest_114 f_12_35 sh_137 rfl rfl ?_
                refine g_iload_n dX12_readTest_117 rfl rfl ?_
                refine g_bipush (v := (6 : Int32)) dX12_readTest_118 (by decide) ?_
                refine g_iadd dX12_readTest_120 ?_
                refine g_aload_n dX12_readTest_121 rfl rfl ?_
                refine g_iconst (v := (0 : Int32)) dX12_readTest_122 (by decide) ?_
                refine g_sipush (v := (9999 : Int32)) dX12_readTest_123 (by decide) ?_
                obtain ⟨q40, e41, h⟩ := z_bd h
                refine g_callV (a := 137) (as := [.int (0 : Int32), .int (9999 : Int32)]) (rest := [.int (a1 + (6 : Int32)), .ref 144]) (c := mX12_count) (k1 := 2) dX12_readTest_126 rfl rfl rfl sh_137 rfl rfl (Nat.le_of_ble_eq_true rfl) (Nat.le_of_ble_eq_true rfl) (by decide) ?_
                refine A_X12_count e41 ?_
                show z_G none 4 mX12_readTest 129 [some (.ref 139), some (.int a1), some (.int q1.1)] [.int q40.1, .int (a1 + (6 : Int32)), .ref 144] q40.2 Q
                by_cases g42 : (a1 + (6 : Int32)) < 0 ∨ 1875 ≤ (a1 + (6 : Int32)).toNatClampNeg
                · rw [if_pos g42] at h; cases h
                replace h := z_iff g42 h
                refine g_iast (a := 142) dX12_readTest_129 sh_142 g42 ?_
                cases h
                exact g_vret dX12_readTest_130 rfl hq
        · replace h := z_ift c12 h
          refine g_aload_n dX12_readTest_68 rfl rfl ?_
          refine g_get (a := 137) (v := .int (q7.2.1 137 17)) dX12_readTest_69 f_12_131 sh_137 rfl (by simp [z_fv, z_wI, z_wL, z_wLs, upd, vp_updL]) ?_
          refine g_goto (t := 76) dX12_readTest_72 (by decide) ?_
          by_cases g43 : (a1 + (7 : Int32)) < 0 ∨ 1875 ≤ (a1 + (7 : Int32)).toNatClampNeg
          · rw [if_pos g43] at h; cases h
          replace h := z_iff g43 h
          refine g_iast (a := 142) dX12_readTest_76 sh_142 g43 ?_
          refine g_aload_n dX12_readTest_77 rfl rfl ?_
          refine g_aload_n dX12_readTest_78 rfl rfl ?_
          refine g_bipush (v := (60 : Int32)) dX12_readTest_79 (by decide) ?_
          obtain ⟨q44, e45, h⟩ := z_bd h
          refine g_callV (a := 137) (as := [.int (60 : Int32)]) (rest := [.ref 139]) (c := mX12_isSign) (k1 := 0) dX12_readTest_81 rfl rfl rfl sh_137 rfl rfl (Nat.le_of_ble_eq_true rfl) (Nat.le_of_ble_eq_true rfl) (by decide) ?_
          refine A_X12_isSign e45 ?_
          show z_G none 4 mX12_readTest 84 [some (.ref 139), some (.int a1), some (.int q1.1)] [.int (z_tb q44.1), .ref 139] q44.2 Q
          refine g_if_ne (t := 105) dX12_readTest_84 (by decide) (fun c46 => ?_) (fun c46 => ?_)
          · replace h := z_ift (z_tbn.mp c46) h
            refine g_iconst (v := (1 : Int32)) dX12_readTest_105 (by decide) ?_
            refine g_goto (t := 110) dX12_readTest_106 (by decide) ?_
            obtain ⟨q47, e48, h⟩ := z_bd h
            refine g_callV (a := 137) (as := [.int (1 : Int32)]) (rest := []) (c := mX12_must) (k1 := 2) dX12_readTest_110 rfl rfl rfl sh_137 rfl rfl (Nat.le_of_ble_eq_true rfl) (Nat.le_of_ble_eq_true rfl) (by decide) ?_
            refine A_X12_must e48 ?_
            show z_G none 4 mX12_readTest 113 [some (.ref 139), some (.int a1), some (.int q1.1)] [] q47.2 Q
            refine g_aload_n dX12_readTest_113 rfl rfl ?_
            refine g_get (a := 137) (v := .ref 144) dX12_readTest_114 f_12_35 sh_137 rfl rfl ?_
            refine g_iload_n dX12_readTest_117 rfl rfl ?_
            refine g_bipush (v := (6 : Int32)) dX12_readTest_118 (by decide) ?_
            refine g_iadd dX12_readTest_120 ?_
            refine g_aload_n dX12_readTest_121 rfl rfl ?_
            refine g_iconst (v := (0 : Int32)) dX12_readTest_122 (by decide) ?_
            refine g_sipush (v := (9999 : Int32)) dX12_readTest_123 (by decide) ?_
            obtain ⟨q49, e50, h⟩ := z_bd h
            refine g_callV (a := 137) (as := [.int (0 : Int32), .int (9999 : Int32)]) (rest := [.int (a1 + (6 : Int32)), .ref 144]) (c := mX12_count) (k1 := 2) dX12_readTest_126 rfl rfl rfl sh_137 rfl rfl (Nat.le_of_ble_eq_true rfl) (Nat.le_of_ble_eq_true rfl) (by decide) ?_
            refine A_X12_count e50 ?_
            show z_G none 4 mX12_readTest 129 [some (.ref 139), some (.int a1), some (.int q1.1)] [.int q49.1, .int (a1 + (6 : Int32)), .ref 144] q49.2 Q
            by_cases g51 : (a1 + (6 : Int32)) < 0 ∨ 1875 ≤ (a1 + (6 : Int32)).toNatClampNeg
            · rw [if_pos g51] at h; cases h
            replace h := z_iff g51 h
            refine g_iast (a := 142) dX12_readTest_129 sh_142 g51 ?_
            cases h
            exact g_vret dX12_readTest_130 rfl hq
          · replace h := z_iff (z_tb0.mp c46) h
            refine g_aload_n dX12_readTest_87 rfl rfl ?_
            refine g_bipush (v := (62 : Int32)) dX12_readTest_88 (by decide) ?_
            obtain ⟨q52, e53, h⟩ := z_bd h
            refine g_callV (a := 137) (as := [.int (62 : Int32)]) (rest := [.ref 139]) (c := mX12_isSign) (k1 := 0) dX12_readTest_90 rfl rfl rfl sh_137 rfl rfl (Nat.le_of_ble_eq_true rfl) (Nat.le_of_ble_eq_true rfl) (by decide) ?_
            refine A_X12_isSign e53 ?_
            show z_G none 4 mX12_readTest 93 [some (.ref 139), some (.int a1), some (.int q1.1)] [.int (z_tb q52.1), .ref 139] q52.2 Q
            refine g_if_ne (t := 105) dX12_readTest_93 (by decide) (fun c54 => ?_) (fun c54 => ?_)
            · replace h := z_ift (z_tbn.mp c54) h
              refine g_iconst (v := (1 : Int32)) dX12_readTest_105 (by decide) ?_
              refine g_goto (t := 110) dX12_readTest_106 (by decide) ?_
              obtain ⟨q55, e56, h⟩ := z_bd h
              refine g_callV (a := 137) (as := [.int (1 : Int32)]) (rest := []) (c := mX12_must) (k1 := 2) dX12_readTest_110 rfl rfl rfl sh_137 rfl rfl (Nat.le_of_ble_eq_true rfl) (Nat.le_of_ble_eq_true rfl) (by decide) ?_
              refine A_X12_must e56 ?_
              show z_G none 4 mX12_readTest 113 [some (.ref 139), some (.int a1), some (.int q1.1)] [] q55.2 Q
              refine g_aload_n dX12_readTest_113 rfl rfl ?_
              refine g_get (a := 137) (v := .ref 144) dX12_readTest_114 f_12_35 sh_137 rfl rfl ?_
              refine g_iload_n dX12_readTest_117 rfl rfl ?_
              refine g_bipush (v := (6 : Int32)) dX12_readTest_118 (by decide) ?_
              refine g_iadd dX12_readTest_120 ?_
              refine g_aload_n dX12_readTest_121 rfl rfl ?_
              refine g_iconst (v := (0 : Int32)) dX12_readTest_122 (by decide) ?_
              refine g_sipush (v := (9999 : Int32)) dX12_readTest_123 (by decide) ?_
              obtain ⟨q57, e58, h⟩ := z_bd h
              refine g_callV (a := 137) (as := [.int (0 : Int32), .int (9999 : Int32)]) (rest := [.int (a1 + (6 : Int32)), .ref 144]) (c := mX12_count) (k1 := 2) dX12_readTest_126 rfl rfl rfl sh_137 rfl rfl (Nat.le_of_ble_eq_true rfl) (Nat.le_of_ble_eq_true rfl) (by decide) ?_
              refine A_X12_count e58 ?_
              show z_G none 4 mX12_readTest 129 [some (.ref 139), some (.int a1), some (.int q1.1)] [.int q57.1, .int (a1 + (6 : Int32)), .ref 144] q57.2 Q
              by_cases g59 : (a1 + (6 : Int32)) < 0 ∨ 1875 ≤ (a1 + (6 : Int32)).toNatClampNeg
              · rw [if_pos g59] at h; cases h
              replace h := z_iff g59 h
              refine g_iast (a := 142) dX12_readTest_129 sh_142 g59 ?_
              cases h
              exact g_vret dX12_readTest_130 rfl hq
            · replace h := z_iff (z_tb0.mp c54) h
              refine g_aload_n dX12_readTest_96 rfl rfl ?_
              refine g_bipush (v := (61 : Int32)) dX12_readTest_97 (by decide) ?_
              obtain ⟨q60, e61, h⟩ := z_bd h
              refine g_callV (a := 137) (as := [.int (61 : Int32)]) (rest := [.ref 139]) (c := mX12_isSign) (k1 := 0) dX12_readTest_99 rfl rfl rfl sh_137 rfl rfl (Nat.le_of_ble_eq_true rfl) (Nat.le_of_ble_eq_true rfl) (by decide) ?_
              refine A_X12_isSign e61 ?_
              show z_G none 4 mX12_readTest 102 [some (.ref 139), some (.int a1), some (.int q1.1)] [.int (z_tb q60.1), .ref 139] q60.2 Q
              refine g_if_eq (t := 109) dX12_readTest_102 (by decide) (fun c62 => ?_) (fun c62 => ?_)
              · replace h := z_iff (z_tb0.mp c62) h
                refine g_iconst (v := (0 : Int32)) dX12_readTest_109 (by decide) ?_
                obtain ⟨q63, e64, h⟩ := z_bd h
                refine g_callV (a := 137) (as := [.int (0 : Int32)]) (rest := []) (c := mX12_must) (k1 := 2) dX12_readTest_110 rfl rfl rfl sh_137 rfl rfl (Nat.le_of_ble_eq_true rfl) (Nat.le_of_ble_eq_true rfl) (by decide) ?_
                refine A_X12_must e64 ?_
                show z_G none 4 mX12_readTest 113 [some (.ref 139), some (.int a1), some (.int q1.1)] [] q63.2 Q
                refine g_aload_n dX12_readTest_113 rfl rfl ?_
                refine g_get (a := 137) (v := .ref 144) dX12_readTest_114 f_12_35 sh_137 rfl rfl ?_
                refine g_iload_n dX12_readTest_117 rfl rfl ?_
                refine g_bipush (v := (6 : Int32)) dX12_readTest_118 (by decide) ?_
                refine g_iadd dX12_readTest_120 ?_
                refine g_aload_n dX12_readTest_121 rfl rfl ?_
                refine g_iconst (v := (0 : Int32)) dX12_readTest_122 (by decide) ?_
                refine g_sipush (v := (9999 : Int32)) dX12_readTest_123 (by decide) ?_
                obtain ⟨q65, e66, h⟩ := z_bd h
                refine g_callV (a := 137) (as := [.int (0 : Int32), .int (9999 : Int32)]) (rest := [.int (a1 + (6 : Int32)), .ref 144]) (c := mX12_count) (k1 := 2) dX12_readTest_126 rfl rfl rfl sh_137 rfl rfl (Nat.le_of_ble_eq_true rfl) (Nat.le_of_ble_eq_true rfl) (by decide) ?_
                refine A_X12_count e66 ?_
                show z_G none 4 mX12_readTest 129 [some (.ref 139), some (.int a1), some (.int q1.1)] [.int q65.1, .int (a1 + (6 : Int32)), .ref 144] q65.2 Q
                by_cases g67 : (a1 + (6 : Int32)) < 0 ∨ 1875 ≤ (a1 + (6 : Int32)).toNatClampNeg
                · rw [if_pos g67] at h; cases h
                replace h := z_iff g67 h
                refine g_iast (a := 142) dX12_readTest_129 sh_142 g67 ?_
                cases h
                exact g_vret dX12_readTest_130 rfl hq
              · replace h := z_ift (z_tbn.mp c62) h
                refine g_iconst (v := (1 : Int32)) dX12_readTest_105 (by decide) ?_
                refine g_goto (t := 110) dX12_readTest_106 (by decide) ?_
                obtain ⟨q68, e69, h⟩ := z_bd h
                refine g_callV (a := 137) (as := [.int (1 : Int32)]) (rest := []) (c := mX12_must) (k1 := 2) dX12_readTest_110 rfl rfl rfl sh_137 rfl rfl (Nat.le_of_ble_eq_true rfl) (Nat.le_of_ble_eq_true rfl) (by decide) ?_
                refine A_X12_must e69 ?_
                show z_G none 4 mX12_readTest 113 [some (.ref 139), some (.int a1), some (.int q1.1)] [] q68.2 Q
                refine g_aload_n dX12_readTest_113 rfl rfl ?_
                refine g_get (a := 137) (v := .ref 144) dX12_readTest_114 f_12_35 sh_137 rfl rfl ?_
                refine g_iload_n dX12_readTest_117 rfl rfl ?_
                refine g_bipush (v := (6 : Int32)) dX12_readTest_118 (by decide) ?_
                refine g_iadd dX12_readTest_120 ?_
                refine g_aload_n dX12_readTest_121 rfl rfl ?_
                refine g_iconst (v := (0 : Int32)) dX12_readTest_122 (by decide) ?_
                refine g_sipush (v := (9999 : Int32)) dX12_readTest_123 (by decide) ?_
                obtain ⟨q70, e71, h⟩ := z_bd h
                refine g_callV (a := 137) (as := [.int (0 : Int32), .int (9999 : Int32)]) (rest := [.int (a1 + (6 : Int32)), .ref 144]) (c := mX12_count) (k1 := 2) dX12_readTest_126 rfl rfl rfl sh_137 rfl rfl (Nat.le_of_ble_eq_true rfl) (Nat.le_of_ble_eq_true rfl) (by decide) ?_
                refine A_X12_count e71 ?_
                show z_G none 4 mX12_readTest 129 [some (.ref 139), some (.int a1), some (.int q1.1)] [.int q70.1, .int (a1 + (6 : Int32)), .ref 144] q70.2 Q
                by_cases g72 : (a1 + (6 : Int32)) < 0 ∨ 1875 ≤ (a1 + (6 : Int32)).toNatClampNeg
                · rw [if_pos g72] at h; cases h
                replace h := z_iff g72 h
                refine g_iast (a := 142) dX12_readTest_129 sh_142 g72 ?_
                cases h
                exact g_vret dX12_readTest_130 rfl hq
      · replace h := z_iff c11 h
        cases h
        exact g_vret dX12_readTest_51 rfl hq
  · replace h := z_iff c3 h
    refine g_iconst (v := (1 : Int32)) dX12_readTest_10 (by decide) ?_
    refine g_goto (t := 15) dX12_readTest_11 (by decide) ?_
    obtain ⟨q73, e74, h⟩ := z_bd h
    refine g_callV (a := 137) (as := [.int (1 : Int32)]) (rest := []) (c := mX12_must) (k1 := 2) dX12_readTest_15 rfl rfl rfl sh_137 rfl rfl (Nat.le_of_ble_eq_true rfl) (Nat.le_of_ble_eq_true rfl) (by decide) ?_
    refine A_X12_must e74 ?_
    show z_G none 4 mX12_readTest 18 [some (.ref 139), some (.int a1), some (.int q1.1)] [] q73.2 Q
    refine g_aload_n dX12_readTest_18 rfl rfl ?_
    refine g_get (a := 137) (v := .ref 144) dX12_readTest_19 f_12_35 sh_137 rfl rfl ?_
    refine g_iload_n dX12_readTest_22 rfl rfl ?_
    refine g_iconst (v := (5 : Int32)) dX12_readTest_23 (by decide) ?_
    refine g_iadd dX12_readTest_24 ?_
    refine g_iload_n dX12_readTest_25 rfl rfl ?_
    by_cases g75 : (a1 + (5 : Int32)) < 0 ∨ 1875 ≤ (a1 + (5 : Int32)).toNatClampNeg
    · rw [if_pos g75] at h; cases h
    replace h := z_iff g75 h
    refine g_iast (a := 142) dX12_readTest_26 sh_142 g75 ?_
    refine g_aload_n dX12_readTest_27 rfl rfl ?_
    refine g_get (a := 137) (v := .ref 144) dX12_readTest_28 f_12_35 sh_137 rfl rfl ?_
    refine g_iload_n dX12_readTest_31 rfl rfl ?_
    refine g_iconst (v := (1 : Int32)) dX12_readTest_32 (by decide) ?_
    refine g_iadd dX12_readTest_33 ?_
    refine g_aload_n dX12_readTest_34 rfl rfl ?_
    obtain ⟨q76, e77, h⟩ := z_bd h
    refine g_callV (a := 137) (as := []) (rest := [.int (a1 + (1 : Int32)), .ref 144]) (c := mX12_readSide) (k1 := 3) dX12_readTest_35 rfl rfl rfl sh_137 rfl rfl (Nat.le_of_ble_eq_true rfl) (Nat.le_of_ble_eq_true rfl) (by decide) ?_
    refine A_X12_readSide e77 ?_
    show z_G none 4 mX12_readTest 38 [some (.ref 139), some (.int a1), some (.int q1.1)] [.int q76.1, .int (a1 + (1 : Int32)), .ref 144] q76.2 Q
    by_cases g78 : (a1 + (1 : Int32)) < 0 ∨ 1875 ≤ (a1 + (1 : Int32)).toNatClampNeg
    · rw [if_pos g78] at h; cases h
    replace h := z_iff g78 h
    refine g_iast (a := 142) dX12_readTest_38 sh_142 g78 ?_
    refine g_aload_n dX12_readTest_39 rfl rfl ?_
    refine g_get (a := 137) (v := .int (q76.2.1 137 12)) dX12_readTest_40 f_12_212 sh_137 rfl (by simp [z_fv, z_wI, z_wL, z_wLs, upd, vp_updL]) ?_
    refine g_if_gt (t := 51) dX12_readTest_43 (by decide) (fun c79 => ?_) (fun c79 => ?_)
    · replace h := z_ift c79 h
      cases h
      exact g_vret dX12_readTest_51 rfl hq
    · replace h := z_iff c79 h
      refine g_iload_n dX12_readTest_46 rfl rfl ?_
      refine g_iconst (v := (1 : Int32)) dX12_readTest_47 (by decide) ?_
      refine g_ic_eq (t := 52) dX12_readTest_48 (by decide) (fun c80 => ?_) (fun c80 => ?_)
      · replace h := z_ift c80 h
        refine g_aload_n dX12_readTest_52 rfl rfl ?_
        refine g_get (a := 137) (v := .ref 144) dX12_readTest_53 f_12_35 sh_137 rfl rfl ?_
        refine g_iload_n dX12_readTest_56 rfl rfl ?_
        refine g_bipush (v := (7 : Int32)) dX12_readTest_57 (by decide) ?_
        refine g_iadd dX12_readTest_59 ?_
        refine g_aload_n dX12_readTest_60 rfl rfl ?_
        refine g_get (a := 137) (v := .int (q76.2.1 137 14)) dX12_readTest_61 f_12_112 sh_137 rfl (by simp [z_fv, z_wI, z_wL, z_wLs, upd, vp_updL]) ?_
        refine g_iconst (v := (3 : Int32)) dX12_readTest_64 (by decide) ?_
        refine g_ic_ne (t := 75) dX12_readTest_65 (by decide) (fun c81 => ?_) (fun c81 => ?_)
        · replace h := z_iff c81 h
          refine g_iconst (v := (0 : Int32)) dX12_readTest_75 (by decide) ?_
          by_cases g82 : (a1 + (7 : Int32)) < 0 ∨ 1875 ≤ (a1 + (7 : Int32)).toNatClampNeg
          · rw [if_pos g82] at h; cases h
          replace h := z_iff g82 h
          refine g_iast (a := 142) dX12_readTest_76 sh_142 g82 ?_
          refine g_aload_n dX12_readTest_77 rfl rfl ?_
          refine g_aload_n dX12_readTest_78 rfl rfl ?_
          refine g_bipush (v := (60 : Int32)) dX12_readTest_79 (by decide) ?_
          obtain ⟨q83, e84, h⟩ := z_bd h
          refine g_callV (a := 137) (as := [.int (60 : Int32)]) (rest := [.ref 139]) (c := mX12_isSign) (k1 := 0) dX12_readTest_81 rfl rfl rfl sh_137 rfl rfl (Nat.le_of_ble_eq_true rfl) (Nat.le_of_ble_eq_true rfl) (by decide) ?_
          refine A_X12_isSign e84 ?_
          show z_G none 4 mX12_readTest 84 [some (.ref 139), some (.int a1), some (.int q1.1)] [.int (z_tb q83.1), .ref 139] q83.2 Q
          refine g_if_ne (t := 105) dX12_readTest_84 (by decide) (fun c85 => ?_) (fun c85 => ?_)
          · replace h := z_ift (z_tbn.mp c85) h
            refine g_iconst (v := (1 : Int32)) dX12_readTest_105 (by decide) ?_
            refine g_goto (t := 110) dX12_readTest_106 (by decide) ?_
            obtain ⟨q86, e87, h⟩ := z_bd h
            refine g_callV (a := 137) (as := [.int (1 : Int32)]) (rest := []) (c := mX12_must) (k1 := 2) dX12_readTest_110 rfl rfl rfl sh_137 rfl rfl (Nat.le_of_ble_eq_true rfl) (Nat.le_of_ble_eq_true rfl) (by decide) ?_
            refine A_X12_must e87 ?_
            show z_G none 4 mX12_readTest 113 [some (.ref 139), some (.int a1), some (.int q1.1)] [] q86.2 Q
            refine g_aload_n dX12_readTest_113 rfl rfl ?_
            refine g_get (a := 137) (v := .ref 144) dX12_readTest_114 f_12_35 sh_137 rfl rfl ?_
            refine g_iload_n dX12_readTest_117 rfl rfl ?_
            refine g_bipush (v := (6 : Int32)) dX12_readTest_118 (by decide) ?_
            refine g_iadd dX12_readTest_120 ?_
            refine g_aload_n dX12_readTest_121 rfl rfl ?_
            refine g_iconst (v := (0 : Int32)) dX12_readTest_122 (by decide) ?_
            refine g_sipush (v := (9999 : Int32)) dX12_readTest_123 (by decide) ?_
            obtain ⟨q88, e89, h⟩ := z_bd h
            refine g_callV (a := 137) (as := [.int (0 : Int32), .int (9999 : Int32)]) (rest := [.int (a1 + (6 : Int32)), .ref 144]) (c := mX12_count) (k1 := 2) dX12_readTest_126 rfl rfl rfl sh_137 rfl rfl (Nat.le_of_ble_eq_true rfl) (Nat.le_of_ble_eq_true rfl) (by decide) ?_
            refine A_X12_count e89 ?_
            show z_G none 4 mX12_readTest 129 [some (.ref 139), some (.int a1), some (.int q1.1)] [.int q88.1, .int (a1 + (6 : Int32)), .ref 144] q88.2 Q
            by_cases g90 : (a1 + (6 : Int32)) < 0 ∨ 1875 ≤ (a1 + (6 : Int32)).toNatClampNeg
            · rw [if_pos g90] at h; cases h
            replace h := z_iff g90 h
            refine g_iast (a := 142) dX12_readTest_129 sh_142 g90 ?_
            cases h
            exact g_vret dX12_readTest_130 rfl hq
          · replace h := z_iff (z_tb0.mp c85) h
            refine g_aload_n dX12_readTest_87 rfl rfl ?_
            refine g_bipush (v := (62 : Int32)) dX12_readTest_88 (by decide) ?_
            obtain ⟨q91, e92, h⟩ := z_bd h
            refine g_callV (a := 137) (as := [.int (62 : Int32)]) (rest := [.ref 139]) (c := mX12_isSign) (k1 := 0) dX12_readTest_90 rfl rfl rfl sh_137 rfl rfl (Nat.le_of_ble_eq_true rfl) (Nat.le_of_ble_eq_true rfl) (by decide) ?_
            refine A_X12_isSign e92 ?_
            show z_G none 4 mX12_readTest 93 [some (.ref 139), some (.int a1), some (.int q1.1)] [.int (z_tb q91.1), .ref 139] q91.2 Q
            refine g_if_ne (t := 105) dX12_readTest_93 (by decide) (fun c93 => ?_) (fun c93 => ?_)
            · replace h := z_ift (z_tbn.mp c93) h
              refine g_iconst (v := (1 : Int32)) dX12_readTest_105 (by decide) ?_
              refine g_goto (t := 110) dX12_readTest_106 (by decide) ?_
              obtain ⟨q94, e95, h⟩ := z_bd h
              refine g_callV (a := 137) (as := [.int (1 : Int32)]) (rest := []) (c := mX12_must) (k1 := 2) dX12_readTest_110 rfl rfl rfl sh_137 rfl rfl (Nat.le_of_ble_eq_true rfl) (Nat.le_of_ble_eq_true rfl) (by decide) ?_
              refine A_X12_must e95 ?_
              show z_G none 4 mX12_readTest 113 [some (.ref 139), some (.int a1), some (.int q1.1)] [] q94.2 Q
              refine g_aload_n dX12_readTest_113 rfl rfl ?_
              refine g_get (a := 137) (v := .ref 144) dX12_readTest_114 f_12_35 sh_137 rfl rfl ?_
              refine g_iload_n dX12_readTest_117 rfl rfl ?_
              refine g_bipush (v := (6 : Int32)) dX12_readTest_118 (by decide) ?_
              refine g_iadd dX12_readTest_120 ?_
              refine g_aload_n dX12_readTest_121 rfl rfl ?_
              refine g_iconst (v := (0 : Int32)) dX12_readTest_122 (by decide) ?_
              refine g_sipush (v := (9999 : Int32)) dX12_readTest_123 (by decide) ?_
              obtain ⟨q96, e97, h⟩ := z_bd h
              refine g_callV (a := 137) (as := [.int (0 : Int32), .int (9999 : Int32)]) (rest := [.int (a1 + (6 : Int32)), .ref 144]) (c := mX12_count) (k1 := 2) dX12_readTest_126 rfl rfl rfl sh_137 rfl rfl (Nat.le_of_ble_eq_true rfl) (Nat.le_of_ble_eq_true rfl) (by decide) ?_
              refine A_X12_count e97 ?_
              show z_G none 4 mX12_readTest 129 [some (.ref 139), some (.int a1), some (.int q1.1)] [.int q96.1, .int (a1 + (6 : Int32)), .ref 144] q96.2 Q
              by_cases g98 : (a1 + (6 : Int32)) < 0 ∨ 1875 ≤ (a1 + (6 : Int32)).toNatClampNeg
              · rw [if_pos g98] at h; cases h
              replace h := z_iff g98 h
              refine g_iast (a := 142) dX12_readTest_129 sh_142 g98 ?_
              cases h
              exact g_vret dX12_readTest_130 rfl hq
            · replace h := z_iff (z_tb0.mp c93) h
              refine g_aload_n dX12_readTest_96 rfl rfl ?_
              refine g_bipush (v := (61 : Int32)) dX12_readTest_97 (by decide) ?_
              obtain ⟨q99, e100, h⟩ := z_bd h
              refine g_callV (a := 137) (as := [.int (61 : Int32)]) (rest := [.ref 139]) (c := mX12_isSign) (k1 := 0) dX12_readTest_99 rfl rfl rfl sh_137 rfl rfl (Nat.le_of_ble_eq_true rfl) (Nat.le_of_ble_eq_true rfl) (by decide) ?_
              refine A_X12_isSign e100 ?_
              show z_G none 4 mX12_readTest 102 [some (.ref 139), some (.int a1), some (.int q1.1)] [.int (z_tb q99.1), .ref 139] q99.2 Q
              refine g_if_eq (t := 109) dX12_readTest_102 (by decide) (fun c101 => ?_) (fun c101 => ?_)
              · replace h := z_iff (z_tb0.mp c101) h
                refine g_iconst (v := (0 : Int32)) dX12_readTest_109 (by decide) ?_
                obtain ⟨q102, e103, h⟩ := z_bd h
                refine g_callV (a := 137) (as := [.int (0 : Int32)]) (rest := []) (c := mX12_must) (k1 := 2) dX12_readTest_110 rfl rfl rfl sh_137 rfl rfl (Nat.le_of_ble_eq_true rfl) (Nat.le_of_ble_eq_true rfl) (by decide) ?_
                refine A_X12_must e103 ?_
                show z_G none 4 mX12_readTest 113 [some (.ref 139), some (.int a1), some (.int q1.1)] [] q102.2 Q
                refine g_aload_n dX12_readTest_113 rfl rfl ?_
                refine g_get (a := 137) (v := .ref 144) dX12_readTest_114 f_12_35 sh_137 rfl rfl ?_
                refine g_iload_n dX12_readTest_117 rfl rfl ?_
                refine g_bipush (v := (6 : Int32)) dX12_readTest_118 (by decide) ?_
                refine g_iadd dX12_readTest_120 ?_
                refine g_aload_n dX12_readTest_121 rfl rfl ?_
                refine g_iconst (v := (0 : Int32)) dX12_readTest_122 (by decide) ?_
                refine g_sipush (v := (9999 : Int32)) dX12_readTest_123 (by decide) ?_
                obtain ⟨q104, e105, h⟩ := z_bd h
                refine g_callV (a := 137) (as := [.int (0 : Int32), .int (9999 : Int32)]) (rest := [.int (a1 + (6 : Int32)), .ref 144]) (c := mX12_count) (k1 := 2) dX12_readTest_126 rfl rfl rfl sh_137 rfl rfl (Nat.le_of_ble_eq_true rfl) (Nat.le_of_ble_eq_true rfl) (by decide) ?_
                refine A_X12_count e105 ?_
                show z_G none 4 mX12_readTest 129 [some (.ref 139), some (.int a1), some (.int q1.1)] [.int q104.1, .int (a1 + (6 : Int32)), .ref 144] q104.2 Q
                by_cases g106 : (a1 + (6 : Int32)) < 0 ∨ 1875 ≤ (a1 + (6 : Int32)).toNatClampNeg
                · rw [if_pos g106] at h; cases h
                replace h := z_iff g106 h
                refine g_iast (a := 142) dX12_readTest_129 sh_142 g106 ?_
                cases h
                exact g_vret dX12_readTest_130 rfl hq
              · replace h := z_ift (z_tbn.mp c101) h
                refine g_iconst (v := (1 : Int32)) dX12_readTest_105 (by decide) ?_
                refine g_goto (t := 110) dX12_readTest_106 (by decide) ?_
                obtain ⟨q107, e108, h⟩ := z_bd h
                refine g_callV (a := 137) (as := [.int (1 : Int32)]) (rest := []) (c := mX12_must) (k1 := 2) dX12_readTest_110 rfl rfl rfl sh_137 rfl rfl (Nat.le_of_ble_eq_true rfl) (Nat.le_of_ble_eq_true rfl) (by decide) ?_
                refine A_X12_must e108 ?_
                show z_G none 4 mX12_readTest 113 [some (.ref 139), some (.int a1), some (.int q1.1)] [] q107.2 Q
                refine g_aload_n dX12_readTest_113 rfl rfl ?_
                refine g_get (a := 137) (v := .ref 144) dX12_readTest_114 f_12_35 sh_137 rfl rfl ?_
                refine g_iload_n dX12_readTest_117 rfl rfl ?_
                refine g_bipush (v := (6 : Int32)) dX12_readTest_118 (by decide) ?_
                refine g_iadd dX12_readTest_120 ?_
                refine g_aload_n dX12_readTest_121 rfl rfl ?_
                refine g_iconst (v := (0 : Int32)) dX12_readTest_122 (by decide) ?_
                refine g_sipush (v := (9999 : Int32)) dX12_readTest_123 (by decide) ?_
                obtain ⟨q109, e110, h⟩ := z_bd h
                refine g_callV (a := 137) (as := [.int (0 : Int32), .int (9999 : Int32)]) (rest := [.int (a1 + (6 : Int32)), .ref 144]) (c := mX12_count) (k1 := 2) dX12_readTest_126 rfl rfl rfl sh_137 rfl rfl (Nat.le_of_ble_eq_true rfl) (Nat.le_of_ble_eq_true rfl) (by decide) ?_
                refine A_X12_count e110 ?_
                show z_G none 4 mX12_readTest 129 [some (.ref 139), some (.int a1), some (.int q1.1)] [.int q109.1, .int (a1 + (6 : Int32)), .ref 144] q109.2 Q
                by_cases g111 : (a1 + (6 : Int32)) < 0 ∨ 1875 ≤ (a1 + (6 : Int32)).toNatClampNeg
                · rw [if_pos g111] at h; cases h
                replace h := z_iff g111 h
                refine g_iast (a := 142) dX12_readTest_129 sh_142 g111 ?_
                cases h
                exact g_vret dX12_readTest_130 rfl hq
        · replace h := z_ift c81 h
          refine g_aload_n dX12_readTest_68 rfl rfl ?_
          refine g_get (a := 137) (v := .int (q76.2.1 137 17)) dX12_readTest_69 f_12_131 sh_137 rfl (by simp [z_fv, z_wI, z_wL, z_wLs, upd, vp_updL]) ?_
          refine g_goto (t := 76) dX12_readTest_72 (by decide) ?_
          by_cases g112 : (a1 + (7 : Int32)) < 0 ∨ 1875 ≤ (a1 + (7 : Int32)).toNatClampNeg
          · rw [if_pos g112] at h; cases h
          replace h := z_iff g112 h
          refine g_iast (a := 142) dX12_readTest_76 sh_142 g112 ?_
          refine g_aload_n dX12_readTest_77 rfl rfl ?_
          refine g_aload_n dX12_readTest_78 rfl rfl ?_
          refine g_bipush (v := (60 : Int32)) dX12_readTest_79 (by decide) ?_
          obtain ⟨q113, e114, h⟩ := z_bd h
          refine g_callV (a := 137) (as := [.int (60 : Int32)]) (rest := [.ref 139]) (c := mX12_isSign) (k1 := 0) dX12_readTest_81 rfl rfl rfl sh_137 rfl rfl (Nat.le_of_ble_eq_true rfl) (Nat.le_of_ble_eq_true rfl) (by decide) ?_
          refine A_X12_isSign e114 ?_
          show z_G none 4 mX12_readTest 84 [some (.ref 139), some (.int a1), some (.int q1.1)] [.int (z_tb q113.1), .ref 139] q113.2 Q
          refine g_if_ne (t := 105) dX12_readTest_84 (by decide) (fun c115 => ?_) (fun c115 => ?_)
          · replace h := z_ift (z_tbn.mp c115) h
            refine g_iconst (v := (1 : Int32)) dX12_readTest_105 (by decide) ?_
            refine g_goto (t := 110) dX12_readTest_106 (by decide) ?_
            obtain ⟨q116, e117, h⟩ := z_bd h
            refine g_callV (a := 137) (as := [.int (1 : Int32)]) (rest := []) (c := mX12_must) (k1 := 2) dX12_readTest_110 rfl rfl rfl sh_137 rfl rfl (Nat.le_of_ble_eq_true rfl) (Nat.le_of_ble_eq_true rfl) (by decide) ?_
            refine A_X12_must e117 ?_
            show z_G none 4 mX12_readTest 113 [some (.ref 139), some (.int a1), some (.int q1.1)] [] q116.2 Q
            refine g_aload_n dX12_readTest_113 rfl rfl ?_
            refine g_get (a := 137) (v := .ref 144) dX12_readTest_114 f_12_35 sh_137 rfl rfl ?_
            refine g_iload_n dX12_readTest_117 rfl rfl ?_
            refine g_bipush (v := (6 : Int32)) dX12_readTest_118 (by decide) ?_
            refine g_iadd dX12_readTest_120 ?_
            refine g_aload_n dX12_readTest_121 rfl rfl ?_
            refine g_iconst (v := (0 : Int32)) dX12_readTest_122 (by decide) ?_
            refine g_sipush (v := (9999 : Int32)) dX12_readTest_123 (by decide) ?_
            obtain ⟨q118, e119, h⟩ := z_bd h
            refine g_callV (a := 137) (as := [.int (0 : Int32), .int (9999 : Int32)]) (rest := [.int (a1 + (6 : Int32)), .ref 144]) (c := mX12_count) (k1 := 2) dX12_readTest_126 rfl rfl rfl sh_137 rfl rfl (Nat.le_of_ble_eq_true rfl) (Nat.le_of_ble_eq_true rfl) (by decide) ?_
            refine A_X12_count e119 ?_
            show z_G none 4 mX12_readTest 129 [some (.ref 139), some (.int a1), some (.int q1.1)] [.int q118.1, .int (a1 + (6 : Int32)), .ref 144] q118.2 Q
            by_cases g120 : (a1 + (6 : Int32)) < 0 ∨ 1875 ≤ (a1 + (6 : Int32)).toNatClampNeg
            · rw [if_pos g120] at h; cases h
            replace h := z_iff g120 h
            refine g_iast (a := 142) dX12_readTest_129 sh_142 g120 ?_
            cases h
            exact g_vret dX12_readTest_130 rfl hq
          · replace h := z_iff (z_tb0.mp c115) h
            refine g_aload_n dX12_readTest_87 rfl rfl ?_
            refine g_bipush (v := (62 : Int32)) dX12_readTest_88 (by decide) ?_
            obtain ⟨q121, e122, h⟩ := z_bd h
            refine g_callV (a := 137) (as := [.int (62 : Int32)]) (rest := [.ref 139]) (c := mX12_isSign) (k1 := 0) dX12_readTest_90 rfl rfl rfl sh_137 rfl rfl (Nat.le_of_ble_eq_true rfl) (Nat.le_of_ble_eq_true rfl) (by decide) ?_
            refine A_X12_isSign e122 ?_
            show z_G none 4 mX12_readTest 93 [some (.ref 139), some (.int a1), some (.int q1.1)] [.int (z_tb q121.1), .ref 139] q121.2 Q
            refine g_if_ne (t := 105) dX12_readTest_93 (by decide) (fun c123 => ?_) (fun c123 => ?_)
            · replace h := z_ift (z_tbn.mp c123) h
              refine g_iconst (v := (1 : Int32)) dX12_readTest_105 (by decide) ?_
              refine g_goto (t := 110) dX12_readTest_106 (by decide) ?_
              obtain ⟨q124, e125, h⟩ := z_bd h
              refine g_callV (a := 137) (as := [.int (1 : Int32)]) (rest := []) (c := mX12_must) (k1 := 2) dX12_readTest_110 rfl rfl rfl sh_137 rfl rfl (Nat.le_of_ble_eq_true rfl) (Nat.le_of_ble_eq_true rfl) (by decide) ?_
              refine A_X12_must e125 ?_
              show z_G none 4 mX12_readTest 113 [some (.ref 139), some (.int a1), some (.int q1.1)] [] q124.2 Q
              refine g_aload_n dX12_readTest_113 rfl rfl ?_
              refine g_get (a := 137) (v := .ref 144) dX12_readTest_114 f_12_35 sh_137 rfl rfl ?_
              refine g_iload_n dX12_readTest_117 rfl rfl ?_
              refine g_bipush (v := (6 : Int32)) dX12_readTest_118 (by decide) ?_
              refine g_iadd dX12_readTest_120 ?_
              refine g_aload_n dX12_readTest_121 rfl rfl ?_
              refine g_iconst (v := (0 : Int32)) dX12_readTest_122 (by decide) ?_
              refine g_sipush (v := (9999 : Int32)) dX12_readTest_123 (by decide) ?_
              obtain ⟨q126, e127, h⟩ := z_bd h
              refine g_callV (a := 137) (as := [.int (0 : Int32), .int (9999 : Int32)]) (rest := [.int (a1 + (6 : Int32)), .ref 144]) (c := mX12_count) (k1 := 2) dX12_readTest_126 rfl rfl rfl sh_137 rfl rfl (Nat.le_of_ble_eq_true rfl) (Nat.le_of_ble_eq_true rfl) (by decide) ?_
              refine A_X12_count e127 ?_
              show z_G none 4 mX12_readTest 129 [some (.ref 139), some (.int a1), some (.int q1.1)] [.int q126.1, .int (a1 + (6 : Int32)), .ref 144] q126.2 Q
              by_cases g128 : (a1 + (6 : Int32)) < 0 ∨ 1875 ≤ (a1 + (6 : Int32)).toNatClampNeg
              · rw [if_pos g128] at h; cases h
              replace h := z_iff g128 h
              refine g_iast (a := 142) dX12_readTest_129 sh_142 g128 ?_
              cases h
              exact g_vret dX12_readTest_130 rfl hq
            · replace h := z_iff (z_tb0.mp c123) h
              refine g_aload_n dX12_readTest_96 rfl rfl ?_
              refine g_bipush (v := (61 : Int32)) dX12_readTest_97 (by decide) ?_
              obtain ⟨q129, e130, h⟩ := z_bd h
              refine g_callV (a := 137) (as := [.int (61 : Int32)]) (rest := [.ref 139]) (c := mX12_isSign) (k1 := 0) dX12_readTest_99 rfl rfl rfl sh_137 rfl rfl (Nat.le_of_ble_eq_true rfl) (Nat.le_of_ble_eq_true rfl) (by decide) ?_
              refine A_X12_isSign e130 ?_
              show z_G none 4 mX12_readTest 102 [some (.ref 139), some (.int a1), some (.int q1.1)] [.int (z_tb q129.1), .ref 139] q129.2 Q
              refine g_if_eq (t := 109) dX12_readTest_102 (by decide) (fun c131 => ?_) (fun c131 => ?_)
              · replace h := z_iff (z_tb0.mp c131) h
                refine g_iconst (v := (0 : Int32)) dX12_readTest_109 (by decide) ?_
                obtain ⟨q132, e133, h⟩ := z_bd h
                refine g_callV (a := 137) (as := [.int (0 : Int32)]) (rest := []) (c := mX12_must) (k1 := 2) dX12_readTest_110 rfl rfl rfl sh_137 rfl rfl (Nat.le_of_ble_eq_true rfl) (Nat.le_of_ble_eq_true rfl) (by decide) ?_
                refine A_X12_must e133 ?_
                show z_G none 4 mX12_readTest 113 [some (.ref 139), some (.int a1), some (.int q1.1)] [] q132.2 Q
                refine g_aload_n dX12_readTest_113 rfl rfl ?_
                refine g_get (a := 137) (v := .ref 144) dX12_readTest_114 f_12_35 sh_137 rfl rfl ?_
                refine g_iload_n dX12_readTest_117 rfl rfl ?_
                refine g_bipush (v := (6 : Int32)) dX12_readTest_118 (by decide) ?_
                refine g_iadd dX12_readTest_120 ?_
                refine g_aload_n dX12_readTest_121 rfl rfl ?_
                refine g_iconst (v := (0 : Int32)) dX12_readTest_122 (by decide) ?_
                refine g_sipush (v := (9999 : Int32)) dX12_readTest_123 (by decide) ?_
                obtain ⟨q134, e135, h⟩ := z_bd h
                refine g_callV (a := 137) (as := [.int (0 : Int32), .int (9999 : Int32)]) (rest := [.int (a1 + (6 : Int32)), .ref 144]) (c := mX12_count) (k1 := 2) dX12_readTest_126 rfl rfl rfl sh_137 rfl rfl (Nat.le_of_ble_eq_true rfl) (Nat.le_of_ble_eq_true rfl) (by decide) ?_
                refine A_X12_count e135 ?_
                show z_G none 4 mX12_readTest 129 [some (.ref 139), some (.int a1), some (.int q1.1)] [.int q134.1, .int (a1 + (6 : Int32)), .ref 144] q134.2 Q
                by_cases g136 : (a1 + (6 : Int32)) < 0 ∨ 1875 ≤ (a1 + (6 : Int32)).toNatClampNeg
                · rw [if_pos g136] at h; cases h
                replace h := z_iff g136 h
                refine g_iast (a := 142) dX12_readTest_129 sh_142 g136 ?_
                cases h
                exact g_vret dX12_readTest_130 rfl hq
              · replace h := z_ift (z_tbn.mp c131) h
                refine g_iconst (v := (1 : Int32)) dX12_readTest_105 (by decide) ?_
                refine g_goto (t := 110) dX12_readTest_106 (by decide) ?_
                obtain ⟨q137, e138, h⟩ := z_bd h
                refine g_callV (a := 137) (as := [.int (1 : Int32)]) (rest := []) (c := mX12_must) (k1 := 2) dX12_readTest_110 rfl rfl rfl sh_137 rfl rfl (Nat.le_of_ble_eq_true rfl) (Nat.le_of_ble_eq_true rfl) (by decide) ?_
                refine A_X12_must e138 ?_
                show z_G none 4 mX12_readTest 113 [some (.ref 139), some (.int a1), some (.int q1.1)] [] q137.2 Q
                refine g_aload_n dX12_readTest_113 rfl rfl ?_
                refine g_get (a := 137) (v := .ref 144) dX12_readTest_114 f_12_35 sh_137 rfl rfl ?_
                refine g_iload_n dX12_readTest_117 rfl rfl ?_
                refine g_bipush (v := (6 : Int32)) dX12_readTest_118 (by decide) ?_
                refine g_iadd dX12_readTest_120 ?_
                refine g_aload_n dX12_readTest_121 rfl rfl ?_
                refine g_iconst (v := (0 : Int32)) dX12_readTest_122 (by decide) ?_
                refine g_sipush (v := (9999 : Int32)) dX12_readTest_123 (by decide) ?_
                obtain ⟨q139, e140, h⟩ := z_bd h
                refine g_callV (a := 137) (as := [.int (0 : Int32), .int (9999 : Int32)]) (rest := [.int (a1 + (6 : Int32)), .ref 144]) (c := mX12_count) (k1 := 2) dX12_readTest_126 rfl rfl rfl sh_137 rfl rfl (Nat.le_of_ble_eq_true rfl) (Nat.le_of_ble_eq_true rfl) (by decide) ?_
                refine A_X12_count e140 ?_
                show z_G none 4 mX12_readTest 129 [some (.ref 139), some (.int a1), some (.int q1.1)] [.int q139.1, .int (a1 + (6 : Int32)), .ref 144] q139.2 Q
                by_cases g141 : (a1 + (6 : Int32)) < 0 ∨ 1875 ≤ (a1 + (6 : Int32)).toNatClampNeg
                · rw [if_pos g141] at h; cases h
                replace h := z_iff g141 h
                refine g_iast (a := 142) dX12_readTest_129 sh_142 g141 ?_
                cases h
                exact g_vret dX12_readTest_130 rfl hq
      · replace h := z_iff c80 h
        cases h
        exact g_vret dX12_readTest_51 rfl hq
theorem dX12_readRest_0 : decode cX12_readRest 0 = .ok (.aload_n 0, 1) := by decide +kernel
theorem dX12_readRest_1 : decode cX12_readRest 1 = .ok (.getfield 35, 3) := by decide +kernel
theorem dX12_readRest_4 : decode cX12_readRest 4 = .ok (.iload_n 1, 1) := by decide +kernel
theorem dX12_readRest_5 : decode cX12_readRest 5 = .ok (.iaload, 1) := by decide +kernel
theorem dX12_readRest_6 : decode cX12_readRest 6 = .ok (.istore_n 2, 1) := by decide +kernel
theorem dX12_readRest_7 : decode cX12_readRest 7 = .ok (.iload_n 2, 1) := by decide +kernel
theorem dX12_readRest_8 : decode cX12_readRest 8 = .ok (.ifCond .ne 21, 3) := by decide +kernel
theorem dX12_readRest_11 : decode cX12_readRest 11 = .ok (.aload_n 0, 1) := by decide +kernel
theorem dX12_readRest_12 : decode cX12_readRest 12 = .ok (.getfield 35, 3) := by decide +kernel
theorem dX12_readRest_15 : decode cX12_readRest 15 = .ok (.iload_n 1, 1) := by decide +kernel
theorem dX12_readRest_16 : decode cX12_readRest 16 = .ok (.iconst 1, 1) := by decide +kernel
theorem dX12_readRest_17 : decode cX12_readRest 17 = .ok (.iadd, 1) := by decide +kernel
theorem dX12_readRest_18 : decode cX12_readRest 18 = .ok (.aload_n 0, 1) := by decide +kernel
theorem dX12_readRest_19 : decode cX12_readRest 19 = .ok (.iconst 1, 1) := by decide +kernel
theorem dX12_readRest_20 : decode cX12_readRest 20 = .ok (.bipush 24, 2) := by decide +kernel
theorem dX12_readRest_22 : decode cX12_readRest 22 = .ok (.invokevirtual 232, 3) := by decide +kernel
theorem dX12_readRest_25 : decode cX12_readRest 25 = .ok (.iastore, 1) := by decide +kernel
theorem dX12_readRest_26 : decode cX12_readRest 26 = .ok (.goto 147, 3) := by decide +kernel
theorem dX12_readRest_29 : decode cX12_readRest 29 = .ok (.iload_n 2, 1) := by decide +kernel
theorem dX12_readRest_30 : decode cX12_readRest 30 = .ok (.iconst 1, 1) := by decide +kernel
theorem dX12_readRest_31 : decode cX12_readRest 31 = .ok (.if_icmp .ne 36, 3) := by decide +kernel
theorem dX12_readRest_34 : decode cX12_readRest 34 = .ok (.aload_n 0, 1) := by decide +kernel
theorem dX12_readRest_35 : decode cX12_readRest 35 = .ok (.getfield 35, 3) := by decide +kernel
theorem dX12_readRest_38 : decode cX12_readRest 38 = .ok (.iload_n 1, 1) := by decide +kernel
theorem dX12_readRest_39 : decode cX12_readRest 39 = .ok (.iconst 1, 1) := by decide +kernel
theorem dX12_readRest_40 : decode cX12_readRest 40 = .ok (.iadd, 1) := by decide +kernel
theorem dX12_readRest_41 : decode cX12_readRest 41 = .ok (.aload_n 0, 1) := by decide +kernel
theorem dX12_readRest_42 : decode cX12_readRest 42 = .ok (.iconst 1, 1) := by decide +kernel
theorem dX12_readRest_43 : decode cX12_readRest 43 = .ok (.bipush 20, 2) := by decide +kernel
theorem dX12_readRest_45 : decode cX12_readRest 45 = .ok (.invokevirtual 232, 3) := by decide +kernel
theorem dX12_readRest_48 : decode cX12_readRest 48 = .ok (.iastore, 1) := by decide +kernel
theorem dX12_readRest_49 : decode cX12_readRest 49 = .ok (.aload_n 0, 1) := by decide +kernel
theorem dX12_readRest_50 : decode cX12_readRest 50 = .ok (.getfield 35, 3) := by decide +kernel
theorem dX12_readRest_53 : decode cX12_readRest 53 = .ok (.iload_n 1, 1) := by decide +kernel
theorem dX12_readRest_54 : decode cX12_readRest 54 = .ok (.iconst 2, 1) := by decide +kernel
theorem dX12_readRest_55 : decode cX12_readRest 55 = .ok (.iadd, 1) := by decide +kernel
theorem dX12_readRest_56 : decode cX12_readRest 56 = .ok (.aload_n 0, 1) := by decide +kernel
theorem dX12_readRest_57 : decode cX12_readRest 57 = .ok (.iconst 1, 1) := by decide +kernel
theorem dX12_readRest_58 : decode cX12_readRest 58 = .ok (.bipush 20, 2) := by decide +kernel
theorem dX12_readRest_60 : decode cX12_readRest 60 = .ok (.invokevirtual 232, 3) := by decide +kernel
theorem dX12_readRest_63 : decode cX12_readRest 63 = .ok (.iastore, 1) := by decide +kernel
theorem dX12_readRest_64 : decode cX12_readRest 64 = .ok (.goto 109, 3) := by decide +kernel
theorem dX12_readRest_67 : decode cX12_readRest 67 = .ok (.iload_n 2, 1) := by decide +kernel
theorem dX12_readRest_68 : decode cX12_readRest 68 = .ok (.iconst 2, 1) := by decide +kernel
theorem dX12_readRest_69 : decode cX12_readRest 69 = .ok (.if_icmp .ne 48, 3) := by decide +kernel
theorem dX12_readRest_72 : decode cX12_readRest 72 = .ok (.aload_n 0, 1) := by decide +kernel
theorem dX12_readRest_73 : decode cX12_readRest 73 = .ok (.getfield 35, 3) := by decide +kernel
theorem dX12_readRest_76 : decode cX12_readRest 76 = .ok (.iload_n 1, 1) := by decide +kernel
theorem dX12_readRest_77 : decode cX12_readRest 77 = .ok (.iconst 1, 1) := by decide +kernel
theorem dX12_readRest_78 : decode cX12_readRest 78 = .ok (.iadd, 1) := by decide +kernel
theorem dX12_readRest_79 : decode cX12_readRest 79 = .ok (.aload_n 0, 1) := by decide +kernel
theorem dX12_readRest_80 : decode cX12_readRest 80 = .ok (.invokevirtual 250, 3) := by decide +kernel
theorem dX12_readRest_83 : decode cX12_readRest 83 = .ok (.iastore, 1) := by decide +kernel
theorem dX12_readRest_84 : decode cX12_readRest 84 = .ok (.aload_n 0, 1) := by decide +kernel
theorem dX12_readRest_85 : decode cX12_readRest 85 = .ok (.getfield 35, 3) := by decide +kernel
theorem dX12_readRest_88 : decode cX12_readRest 88 = .ok (.iload_n 1, 1) := by decide +kernel
theorem dX12_readRest_89 : decode cX12_readRest 89 = .ok (.iconst 2, 1) := by decide +kernel
theorem dX12_readRest_90 : decode cX12_readRest 90 = .ok (.iadd, 1) := by decide +kernel
theorem dX12_readRest_91 : decode cX12_readRest 91 = .ok (.aload_n 0, 1) := by decide +kernel
theorem dX12_readRest_92 : decode cX12_readRest 92 = .ok (.iconst 1, 1) := by decide +kernel
theorem dX12_readRest_93 : decode cX12_readRest 93 = .ok (.bipush 99, 2) := by decide +kernel
theorem dX12_readRest_95 : decode cX12_readRest 95 = .ok (.invokevirtual 232, 3) := by decide +kernel
theorem dX12_readRest_98 : decode cX12_readRest 98 = .ok (.iastore, 1) := by decide +kernel
theorem dX12_readRest_99 : decode cX12_readRest 99 = .ok (.aload_n 0, 1) := by decide +kernel
theorem dX12_readRest_100 : decode cX12_readRest 100 = .ok (.getfield 35, 3) := by decide +kernel
theorem dX12_readRest_103 : decode cX12_readRest 103 = .ok (.iload_n 1, 1) := by decide +kernel
theorem dX12_readRest_104 : decode cX12_readRest 104 = .ok (.iconst 3, 1) := by decide +kernel
theorem dX12_readRest_105 : decode cX12_readRest 105 = .ok (.iadd, 1) := by decide +kernel
theorem dX12_readRest_106 : decode cX12_readRest 106 = .ok (.aload_n 0, 1) := by decide +kernel
theorem dX12_readRest_107 : decode cX12_readRest 107 = .ok (.iconst 1, 1) := by decide +kernel
theorem dX12_readRest_108 : decode cX12_readRest 108 = .ok (.bipush 24, 2) := by decide +kernel
theorem dX12_readRest_110 : decode cX12_readRest 110 = .ok (.invokevirtual 232, 3) := by decide +kernel
theorem dX12_readRest_113 : decode cX12_readRest 113 = .ok (.iastore, 1) := by decide +kernel
theorem dX12_readRest_114 : decode cX12_readRest 114 = .ok (.goto 59, 3) := by decide +kernel
theorem dX12_readRest_117 : decode cX12_readRest 117 = .ok (.iload_n 2, 1) := by decide +kernel
theorem dX12_readRest_118 : decode cX12_readRest 118 = .ok (.iconst 3, 1) := by decide +kernel
theorem dX12_readRest_119 : decode cX12_readRest 119 = .ok (.if_icmp .ne 20, 3) := by decide +kernel
theorem dX12_readRest_122 : decode cX12_readRest 122 = .ok (.aload_n 0, 1) := by decide +kernel
theorem dX12_readRest_123 : decode cX12_readRest 123 = .ok (.getfield 35, 3) := by decide +kernel
theorem dX12_readRest_126 : decode cX12_readRest 126 = .ok (.iload_n 1, 1) := by decide +kernel
theorem dX12_readRest_127 : decode cX12_readRest 127 = .ok (.iconst 1, 1) := by decide +kernel
theorem dX12_readRest_128 : decode cX12_readRest 128 = .ok (.iadd, 1) := by decide +kernel
theorem dX12_readRest_129 : decode cX12_readRest 129 = .ok (.aload_n 0, 1) := by decide +kernel
theorem dX12_readRest_130 : decode cX12_readRest 130 = .ok (.iconst 0, 1) := by decide +kernel
theorem dX12_readRest_131 : decode cX12_readRest 131 = .ok (.iconst 4, 1) := by decide +kernel
theorem dX12_readRest_132 : decode cX12_readRest 132 = .ok (.invokevirtual 232, 3) := by decide +kernel
theorem dX12_readRest_135 : decode cX12_readRest 135 = .ok (.iastore, 1) := by decide +kernel
theorem dX12_readRest_136 : decode cX12_readRest 136 = .ok (.goto 37, 3) := by decide +kernel
theorem dX12_readRest_139 : decode cX12_readRest 139 = .ok (.iload_n 2, 1) := by decide +kernel
theorem dX12_readRest_140 : decode cX12_readRest 140 = .ok (.bipush 6, 2) := by decide +kernel
theorem dX12_readRest_142 : decode cX12_readRest 142 = .ok (.if_icmp .ne 21, 3) := by decide +kernel
theorem dX12_readRest_145 : decode cX12_readRest 145 = .ok (.aload_n 0, 1) := by decide +kernel
theorem dX12_readRest_146 : decode cX12_readRest 146 = .ok (.getfield 35, 3) := by decide +kernel
theorem dX12_readRest_149 : decode cX12_readRest 149 = .ok (.iload_n 1, 1) := by decide +kernel
theorem dX12_readRest_150 : decode cX12_readRest 150 = .ok (.iconst 1, 1) := by decide +kernel
theorem dX12_readRest_151 : decode cX12_readRest 151 = .ok (.iadd, 1) := by decide +kernel
theorem dX12_readRest_152 : decode cX12_readRest 152 = .ok (.aload_n 0, 1) := by decide +kernel
theorem dX12_readRest_153 : decode cX12_readRest 153 = .ok (.iconst 1, 1) := by decide +kernel
theorem dX12_readRest_154 : decode cX12_readRest 154 = .ok (.bipush 99, 2) := by decide +kernel
theorem dX12_readRest_156 : decode cX12_readRest 156 = .ok (.invokevirtual 232, 3) := by decide +kernel
theorem dX12_readRest_159 : decode cX12_readRest 159 = .ok (.iastore, 1) := by decide +kernel
theorem dX12_readRest_160 : decode cX12_readRest 160 = .ok (.goto 13, 3) := by decide +kernel
theorem dX12_readRest_163 : decode cX12_readRest 163 = .ok (.iload_n 2, 1) := by decide +kernel
theorem dX12_readRest_164 : decode cX12_readRest 164 = .ok (.iconst 5, 1) := by decide +kernel
theorem dX12_readRest_165 : decode cX12_readRest 165 = .ok (.if_icmp .ne 8, 3) := by decide +kernel
theorem dX12_readRest_168 : decode cX12_readRest 168 = .ok (.aload_n 0, 1) := by decide +kernel
theorem dX12_readRest_169 : decode cX12_readRest 169 = .ok (.iload_n 1, 1) := by decide +kernel
theorem dX12_readRest_170 : decode cX12_readRest 170 = .ok (.invokevirtual 319, 3) := by decide +kernel
theorem dX12_readRest_173 : decode cX12_readRest 173 = .ok (.return_, 1) := by decide +kernel
def F_X12_readRest (w : Nat) (M : z_Mem) (a1 : Int32) : Option (Unit × z_Mem) :=
  if a1 < 0 ∨ 1875 ≤ a1.toNatClampNeg then none else
  if (M.1 142 a1.toNatClampNeg) = (0 : Int32) then
  (F_X12_count w M (1 : Int32) (24 : Int32)).bind fun q31 =>
  if (a1 + (1 : Int32)) < 0 ∨ 1875 ≤ (a1 + (1 : Int32)).toNatClampNeg then none else
  some ((), (z_wI q31.2 142 ((a1 + (1 : Int32)).toNatClampNeg) q31.1))
  else
  if (M.1 142 a1.toNatClampNeg) = (1 : Int32) then
  (F_X12_count w M (1 : Int32) (20 : Int32)).bind fun q25 =>
  if (a1 + (1 : Int32)) < 0 ∨ 1875 ≤ (a1 + (1 : Int32)).toNatClampNeg then none else
  (F_X12_count w (z_wI q25.2 142 ((a1 + (1 : Int32)).toNatClampNeg) q25.1) (1 : Int32) (20 : Int32)).bind fun q28 =>
  if (a1 + (2 : Int32)) < 0 ∨ 1875 ≤ (a1 + (2 : Int32)).toNatClampNeg then none else
  some ((), (z_wI q28.2 142 ((a1 + (2 : Int32)).toNatClampNeg) q28.1))
  else
  if (M.1 142 a1.toNatClampNeg) = (2 : Int32) then
  (F_X12_readSide w M).bind fun q16 =>
  if (a1 + (1 : Int32)) < 0 ∨ 1875 ≤ (a1 + (1 : Int32)).toNatClampNeg then none else
  (F_X12_count w (z_wI q16.2 142 ((a1 + (1 : Int32)).toNatClampNeg) q16.1) (1 : Int32) (99 : Int32)).bind fun q19 =>
  if (a1 + (2 : Int32)) < 0 ∨ 1875 ≤ (a1 + (2 : Int32)).toNatClampNeg then none else
  (F_X12_count w (z_wI q19.2 142 ((a1 + (2 : Int32)).toNatClampNeg) q19.1) (1 : Int32) (24 : Int32)).bind fun q22 =>
  if (a1 + (3 : Int32)) < 0 ∨ 1875 ≤ (a1 + (3 : Int32)).toNatClampNeg then none else
  some ((), (z_wI q22.2 142 ((a1 + (3 : Int32)).toNatClampNeg) q22.1))
  else
  if (M.1 142 a1.toNatClampNeg) = (3 : Int32) then
  (F_X12_count w M (0 : Int32) (4 : Int32)).bind fun q13 =>
  if (a1 + (1 : Int32)) < 0 ∨ 1875 ≤ (a1 + (1 : Int32)).toNatClampNeg then none else
  some ((), (z_wI q13.2 142 ((a1 + (1 : Int32)).toNatClampNeg) q13.1))
  else
  if (M.1 142 a1.toNatClampNeg) = (6 : Int32) then
  (F_X12_count w M (1 : Int32) (99 : Int32)).bind fun q10 =>
  if (a1 + (1 : Int32)) < 0 ∨ 1875 ≤ (a1 + (1 : Int32)).toNatClampNeg then none else
  some ((), (z_wI q10.2 142 ((a1 + (1 : Int32)).toNatClampNeg) q10.1))
  else
  if (M.1 142 a1.toNatClampNeg) = (5 : Int32) then
  (F_X12_readTest w M a1).bind fun q8 =>
  some ((), q8.2)
  else
  some ((), M)
set_option maxHeartbeats 4000000 in
theorem A_X12_readRest {w : Nat} {M : z_Mem} {a1 : Int32} {r : Unit} {M' : z_Mem} {Q : Option Value → z_Mem → Prop} (h : F_X12_readRest w M a1 = some (r, M')) (hq : Q none M') : z_Cl 5 mX12_readRest [.ref 139, .int a1] M Q := by
  refine g_in (ls := [some (.ref 139), some (.int a1), none]) rfl ?_
  unfold F_X12_readRest at h
  refine g_aload_n dX12_readRest_0 rfl rfl ?_
  refine g_get (a := 137) (v := .ref 144) dX12_readRest_1 f_12_35 sh_137 rfl rfl ?_
  refine g_iload_n dX12_readRest_4 rfl rfl ?_
  by_cases g1 : a1 < 0 ∨ 1875 ≤ a1.toNatClampNeg
  · rw [if_pos g1] at h; cases h
  replace h := z_iff g1 h
  refine g_iald (a := 142) dX12_readRest_5 sh_142 g1 ?_
  refine g_istore_n (ls' := [some (.ref 139), some (.int a1), some (.int (M.1 142 a1.toNatClampNeg))]) dX12_readRest_6 rfl (Nat.le_of_ble_eq_true rfl) rfl ?_
  refine g_iload_n dX12_readRest_7 rfl rfl ?_
  refine g_if_ne (t := 29) dX12_readRest_8 (by decide) (fun c2 => ?_) (fun c2 => ?_)
  · replace h := z_iff c2 h
    refine g_iload_n dX12_readRest_29 rfl rfl ?_
    refine g_iconst (v := (1 : Int32)) dX12_readRest_30 (by decide) ?_
    refine g_ic_ne (t := 67) dX12_readRest_31 (by decide) (fun c3 => ?_) (fun c3 => ?_)
    · replace h := z_iff c3 h
      refine g_iload_n dX12_readRest_67 rfl rfl ?_
      refine g_iconst (v := (2 : Int32)) dX12_readRest_68 (by decide) ?_
      refine g_ic_ne (t := 117) dX12_readRest_69 (by decide) (fun c4 => ?_) (fun c4 => ?_)
      · replace h := z_iff c4 h
        refine g_iload_n dX12_readRest_117 rfl rfl ?_
        refine g_iconst (v := (3 : Int32)) dX12_readRest_118 (by decide) ?_
        refine g_ic_ne (t := 139) dX12_readRest_119 (by decide) (fun c5 => ?_) (fun c5 => ?_)
        · replace h := z_iff c5 h
          refine g_iload_n dX12_readRest_139 rfl rfl ?_
          refine g_bipush (v := (6 : Int32)) dX12_readRest_140 (by decide) ?_
          refine g_ic_ne (t := 163) dX12_readRest_142 (by decide) (fun c6 => ?_) (fun c6 => ?_)
          · replace h := z_iff c6 h
            refine g_iload_n dX12_readRest_163 rfl rfl ?_
            refine g_iconst (v := (5 : Int32)) dX12_readRest_164 (by decide) ?_
            refine g_ic_ne (t := 173) dX12_readRest_165 (by decide) (fun c7 => ?_) (fun c7 => ?_)
            · replace h := z_iff c7 h
              cases h
              exact g_vret dX12_readRest_173 rfl hq
            · replace h := z_ift c7 h
              refine g_aload_n dX12_readRest_168 rfl rfl ?_
              refine g_iload_n dX12_readRest_169 rfl rfl ?_
              obtain ⟨q8, e9, h⟩ := z_bd h
              refine g_callV (a := 137) (as := [.int a1]) (rest := []) (c := mX12_readTest) (k1 := 4) dX12_readRest_170 rfl rfl rfl sh_137 rfl rfl (Nat.le_of_ble_eq_true rfl) (Nat.le_of_ble_eq_true rfl) (by decide) ?_
              refine A_X12_readTest e9 ?_
              show z_G none 5 mX12_readRest 173 [some (.ref 139), some (.int a1), some (.int (M.1 142 a1.toNatClampNeg))] [] q8.2 Q
              cases h
              exact g_vret dX12_readRest_173 rfl hq
          · replace h := z_ift c6 h
            refine g_aload_n dX12_readRest_145 rfl rfl ?_
            refine g_get (a := 137) (v := .ref 144) dX12_readRest_146 f_12_35 sh_137 rfl rfl ?_
            refine g_iload_n dX12_readRest_149 rfl rfl ?_
            refine g_iconst (v := (1 : Int32)) dX12_readRest_150 (by decide) ?_
            refine g_iadd dX12_readRest_151 ?_
            refine g_aload_n dX12_readRest_152 rfl rfl ?_
            refine g_iconst (v := (1 : Int32)) dX12_readRest_153 (by decide) ?_
            refine g_bipush (v := (99 : Int32)) dX12_readRest_154 (by decide) ?_
            obtain ⟨q10, e11, h⟩ := z_bd h
            refine g_callV (a := 137) (as := [.int (1 : Int32), .int (99 : Int32)]) (rest := [.int (a1 + (1 : Int32)), .ref 144]) (c := mX12_count) (k1 := 2) dX12_readRest_156 rfl rfl rfl sh_137 rfl rfl (Nat.le_of_ble_eq_true rfl) (Nat.le_of_ble_eq_true rfl) (by decide) ?_
            refine A_X12_count e11 ?_
            show z_G none 5 mX12_readRest 159 [some (.ref 139), some (.int a1), some (.int (M.1 142 a1.toNatClampNeg))] [.int q10.1, .int (a1 + (1 : Int32)), .ref 144] q10.2 Q
            by_cases g12 : (a1 + (1 : Int32)) < 0 ∨ 1875 ≤ (a1 + (1 : Int32)).toNatClampNeg
            · rw [if_pos g12] at h; cases h
            replace h := z_iff g12 h
            refine g_iast (a := 142) dX12_readRest_159 sh_142 g12 ?_
            refine g_goto (t := 173) dX12_readRest_160 (by decide) ?_
            cases h
            exact g_vret dX12_readRest_173 rfl hq
        · replace h := z_ift c5 h
          refine g_aload_n dX12_readRest_122 rfl rfl ?_
          refine g_get (a := 137) (v := .ref 144) dX12_readRest_123 f_12_35 sh_137 rfl rfl ?_
          refine g_iload_n dX12_readRest_126 rfl rfl ?_
          refine g_iconst (v := (1 : Int32)) dX12_readRest_127 (by decide) ?_
          refine g_iadd dX12_readRest_128 ?_
          refine g_aload_n dX12_readRest_129 rfl rfl ?_
          refine g_iconst (v := (0 : Int32)) dX12_readRest_130 (by decide) ?_
          refine g_iconst (v := (4 : Int32)) dX12_readRest_131 (by decide) ?_
          obtain ⟨q13, e14, h⟩ := z_bd h
          refine g_callV (a := 137) (as := [.int (0 : Int32), .int (4 : Int32)]) (rest := [.int (a1 + (1 : Int32)), .ref 144]) (c := mX12_count) (k1 := 2) dX12_readRest_132 rfl rfl rfl sh_137 rfl rfl (Nat.le_of_ble_eq_true rfl) (Nat.le_of_ble_eq_true rfl) (by decide) ?_
          refine A_X12_count e14 ?_
          show z_G none 5 mX12_readRest 135 [some (.ref 139), some (.int a1), some (.int (M.1 142 a1.toNatClampNeg))] [.int q13.1, .int (a1 + (1 : Int32)), .ref 144] q13.2 Q
          by_cases g15 : (a1 + (1 : Int32)) < 0 ∨ 1875 ≤ (a1 + (1 : Int32)).toNatClampNeg
          · rw [if_pos g15] at h; cases h
          replace h := z_iff g15 h
          refine g_iast (a := 142) dX12_readRest_135 sh_142 g15 ?_
          refine g_goto (t := 173) dX12_readRest_136 (by decide) ?_
          cases h
          exact g_vret dX12_readRest_173 rfl hq
      · replace h := z_ift c4 h
        refine g_aload_n dX12_readRest_72 rfl rfl ?_
        refine g_get (a := 137) (v := .ref 144) dX12_readRest_73 f_12_35 sh_137 rfl rfl ?_
        refine g_iload_n dX12_readRest_76 rfl rfl ?_
        refine g_iconst (v := (1 : Int32)) dX12_readRest_77 (by decide) ?_
        refine g_iadd dX12_readRest_78 ?_
        refine g_aload_n dX12_readRest_79 rfl rfl ?_
        obtain ⟨q16, e17, h⟩ := z_bd h
        refine g_callV (a := 137) (as := []) (rest := [.int (a1 + (1 : Int32)), .ref 144]) (c := mX12_readSide) (k1 := 3) dX12_readRest_80 rfl rfl rfl sh_137 rfl rfl (Nat.le_of_ble_eq_true rfl) (Nat.le_of_ble_eq_true rfl) (by decide) ?_
        refine A_X12_readSide e17 ?_
        show z_G none 5 mX12_readRest 83 [some (.ref 139), some (.int a1), some (.int (M.1 142 a1.toNatClampNeg))] [.int q16.1, .int (a1 + (1 : Int32)), .ref 144] q16.2 Q
        by_cases g18 : (a1 + (1 : Int32)) < 0 ∨ 1875 ≤ (a1 + (1 : Int32)).toNatClampNeg
        · rw [if_pos g18] at h; cases h
        replace h := z_iff g18 h
        refine g_iast (a := 142) dX12_readRest_83 sh_142 g18 ?_
        refine g_aload_n dX12_readRest_84 rfl rfl ?_
        refine g_get (a := 137) (v := .ref 144) dX12_readRest_85 f_12_35 sh_137 rfl rfl ?_
        refine g_iload_n dX12_readRest_88 rfl rfl ?_
        refine g_iconst (v := (2 : Int32)) dX12_readRest_89 (by decide) ?_
        refine g_iadd dX12_readRest_90 ?_
        refine g_aload_n dX12_readRest_91 rfl rfl ?_
        refine g_iconst (v := (1 : Int32)) dX12_readRest_92 (by decide) ?_
        refine g_bipush (v := (99 : Int32)) dX12_readRest_93 (by decide) ?_
        obtain ⟨q19, e20, h⟩ := z_bd h
        refine g_callV (a := 137) (as := [.int (1 : Int32), .int (99 : Int32)]) (rest := [.int (a1 + (2 : Int32)), .ref 144]) (c := mX12_count) (k1 := 2) dX12_readRest_95 rfl rfl rfl sh_137 rfl rfl (Nat.le_of_ble_eq_true rfl) (Nat.le_of_ble_eq_true rfl) (by decide) ?_
        refine A_X12_count e20 ?_
        show z_G none 5 mX12_readRest 98 [some (.ref 139), some (.int a1), some (.int (M.1 142 a1.toNatClampNeg))] [.int q19.1, .int (a1 + (2 : Int32)), .ref 144] q19.2 Q
        by_cases g21 : (a1 + (2 : Int32)) < 0 ∨ 1875 ≤ (a1 + (2 : Int32)).toNatClampNeg
        · rw [if_pos g21] at h; cases h
        replace h := z_iff g21 h
        refine g_iast (a := 142) dX12_readRest_98 sh_142 g21 ?_
        refine g_aload_n dX12_readRest_99 rfl rfl ?_
        refine g_get (a := 137) (v := .ref 144) dX12_readRest_100 f_12_35 sh_137 rfl rfl ?_
        refine g_iload_n dX12_readRest_103 rfl rfl ?_
        refine g_iconst (v := (3 : Int32)) dX12_readRest_104 (by decide) ?_
        refine g_iadd dX12_readRest_105 ?_
        refine g_aload_n dX12_readRest_106 rfl rfl ?_
        refine g_iconst (v := (1 : Int32)) dX12_readRest_107 (by decide) ?_
        refine g_bipush (v := (24 : Int32)) dX12_readRest_108 (by decide) ?_
        obtain ⟨q22, e23, h⟩ := z_bd h
        refine g_callV (a := 137) (as := [.int (1 : Int32), .int (24 : Int32)]) (rest := [.int (a1 + (3 : Int32)), .ref 144]) (c := mX12_count) (k1 := 2) dX12_readRest_110 rfl rfl rfl sh_137 rfl rfl (Nat.le_of_ble_eq_true rfl) (Nat.le_of_ble_eq_true rfl) (by decide) ?_
        refine A_X12_count e23 ?_
        show z_G none 5 mX12_readRest 113 [some (.ref 139), some (.int a1), some (.int (M.1 142 a1.toNatClampNeg))] [.int q22.1, .int (a1 + (3 : Int32)), .ref 144] q22.2 Q
        by_cases g24 : (a1 + (3 : Int32)) < 0 ∨ 1875 ≤ (a1 + (3 : Int32)).toNatClampNeg
        · rw [if_pos g24] at h; cases h
        replace h := z_iff g24 h
        refine g_iast (a := 142) dX12_readRest_113 sh_142 g24 ?_
        refine g_goto (t := 173) dX12_readRest_114 (by decide) ?_
        cases h
        exact g_vret dX12_readRest_173 rfl hq
    · replace h := z_ift c3 h
      refine g_aload_n dX12_readRest_34 rfl rfl ?_
      refine g_get (a := 137) (v := .ref 144) dX12_readRest_35 f_12_35 sh_137 rfl rfl ?_
      refine g_iload_n dX12_readRest_38 rfl rfl ?_
      refine g_iconst (v := (1 : Int32)) dX12_readRest_39 (by decide) ?_
      refine g_iadd dX12_readRest_40 ?_
      refine g_aload_n dX12_readRest_41 rfl rfl ?_
      refine g_iconst (v := (1 : Int32)) dX12_readRest_42 (by decide) ?_
      refine g_bipush (v := (20 : Int32)) dX12_readRest_43 (by decide) ?_
      obtain ⟨q25, e26, h⟩ := z_bd h
      refine g_callV (a := 137) (as := [.int (1 : Int32), .int (20 : Int32)]) (rest := [.int (a1 + (1 : Int32)), .ref 144]) (c := mX12_count) (k1 := 2) dX12_readRest_45 rfl rfl rfl sh_137 rfl rfl (Nat.le_of_ble_eq_true rfl) (Nat.le_of_ble_eq_true rfl) (by decide) ?_
      refine A_X12_count e26 ?_
      show z_G none 5 mX12_readRest 48 [some (.ref 139), some (.int a1), some (.int (M.1 142 a1.toNatClampNeg))] [.int q25.1, .int (a1 + (1 : Int32)), .ref 144] q25.2 Q
      by_cases g27 : (a1 + (1 : Int32)) < 0 ∨ 1875 ≤ (a1 + (1 : Int32)).toNatClampNeg
      · rw [if_pos g27] at h; cases h
      replace h := z_iff g27 h
      refine g_iast (a := 142) dX12_readRest_48 sh_142 g27 ?_
      refine g_aload_n dX12_readRest_49 rfl rfl ?_
      refine g_get (a := 137) (v := .ref 144) dX12_readRest_50 f_12_35 sh_137 rfl rfl ?_
      refine g_iload_n dX12_readRest_53 rfl rfl ?_
      refine g_iconst (v := (2 : Int32)) dX12_readRest_54 (by decide) ?_
      refine g_iadd dX12_readRest_55 ?_
      refine g_aload_n dX12_readRest_56 rfl rfl ?_
      refine g_iconst (v := (1 : Int32)) dX12_readRest_57 (by decide) ?_
      refine g_bipush (v := (20 : Int32)) dX12_readRest_58 (by decide) ?_
      obtain ⟨q28, e29, h⟩ := z_bd h
      refine g_callV (a := 137) (as := [.int (1 : Int32), .int (20 : Int32)]) (rest := [.int (a1 + (2 : Int32)), .ref 144]) (c := mX12_count) (k1 := 2) dX12_readRest_60 rfl rfl rfl sh_137 rfl rfl (Nat.le_of_ble_eq_true rfl) (Nat.le_of_ble_eq_true rfl) (by decide) ?_
      refine A_X12_count e29 ?_
      show z_G none 5 mX12_readRest 63 [some (.ref 139), some (.int a1), some (.int (M.1 142 a1.toNatClampNeg))] [.int q28.1, .int (a1 + (2 : Int32)), .ref 144] q28.2 Q
      by_cases g30 : (a1 + (2 : Int32)) < 0 ∨ 1875 ≤ (a1 + (2 : Int32)).toNatClampNeg
      · rw [if_pos g30] at h; cases h
      replace h := z_iff g30 h
      refine g_iast (a := 142) dX12_readRest_63 sh_142 g30 ?_
      refine g_goto (t := 173) dX12_readRest_64 (by decide) ?_
      cases h
      exact g_vret dX12_readRest_173 rfl hq
  · replace h := z_ift c2 h
    refine g_aload_n dX12_readRest_11 rfl rfl ?_
    refine g_get (a := 137) (v := .ref 144) dX12_readRest_12 f_12_35 sh_137 rfl rfl ?_
    refine g_iload_n dX12_readRest_15 rfl rfl ?_
    refine g_iconst (v := (1 : Int32)) dX12_readRest_16 (by decide) ?_
    refine g_iadd dX12_readRest_17 ?_
    refine g_aload_n dX12_readRest_18 rfl rfl ?_
    refine g_iconst (v := (1 : Int32)) dX12_readRest_19 (by decide) ?_
    refine g_bipush (v := (24 : Int32)) dX12_readRest_20 (by decide) ?_
    obtain ⟨q31, e32, h⟩ := z_bd h
    refine g_callV (a := 137) (as := [.int (1 : Int32), .int (24 : Int32)]) (rest := [.int (a1 + (1 : Int32)), .ref 144]) (c := mX12_count) (k1 := 2) dX12_readRest_22 rfl rfl rfl sh_137 rfl rfl (Nat.le_of_ble_eq_true rfl) (Nat.le_of_ble_eq_true rfl) (by decide) ?_
    refine A_X12_count e32 ?_
    show z_G none 5 mX12_readRest 25 [some (.ref 139), some (.int a1), some (.int (M.1 142 a1.toNatClampNeg))] [.int q31.1, .int (a1 + (1 : Int32)), .ref 144] q31.2 Q
    by_cases g33 : (a1 + (1 : Int32)) < 0 ∨ 1875 ≤ (a1 + (1 : Int32)).toNatClampNeg
    · rw [if_pos g33] at h; cases h
    replace h := z_iff g33 h
    refine g_iast (a := 142) dX12_readRest_25 sh_142 g33 ?_
    refine g_goto (t := 173) dX12_readRest_26 (by decide) ?_
    cases h
    exact g_vret dX12_readRest_173 rfl hq
theorem dX12_isSideAt_0 : decode cX12_isSideAt 0 = .ok (.iload_n 0, 1) := by decide +kernel
theorem dX12_isSideAt_1 : decode cX12_isSideAt 1 = .ok (.ifCond .eq 8, 3) := by decide +kernel
theorem dX12_isSideAt_4 : decode cX12_isSideAt 4 = .ok (.iload_n 0, 1) := by decide +kernel
theorem dX12_isSideAt_5 : decode cX12_isSideAt 5 = .ok (.iconst 1, 1) := by decide +kernel
theorem dX12_isSideAt_6 : decode cX12_isSideAt 6 = .ok (.if_icmp .ne 7, 3) := by decide +kernel
theorem dX12_isSideAt_9 : decode cX12_isSideAt 9 = .ok (.iconst 1, 1) := by decide +kernel
theorem dX12_isSideAt_10 : decode cX12_isSideAt 10 = .ok (.goto 4, 3) := by decide +kernel
theorem dX12_isSideAt_13 : decode cX12_isSideAt 13 = .ok (.iconst 0, 1) := by decide +kernel
theorem dX12_isSideAt_14 : decode cX12_isSideAt 14 = .ok (.ireturn, 1) := by decide +kernel
def F_X12_isSideAt (w : Nat) (M : z_Mem) (a0 : Int32) : Option (Bool × z_Mem) :=
  if a0 = (0 : Int32) then
  some (true, M)
  else
  if a0 = (1 : Int32) then
  some (true, M)
  else
  some (false, M)
set_option maxHeartbeats 4000000 in
theorem A_X12_isSideAt {w : Nat} {M : z_Mem} {a0 : Int32} {r : Bool} {M' : z_Mem} {Q : Option Value → z_Mem → Prop} (h : F_X12_isSideAt w M a0 = some (r, M')) (hq : Q (some (.int (z_tb r))) M') : z_Cl 0 mX12_isSideAt [.int a0] M Q := by
  refine g_in (ls := [some (.int a0)]) rfl ?_
  unfold F_X12_isSideAt at h
  refine g_iload_n dX12_isSideAt_0 rfl rfl ?_
  refine g_if_eq (t := 9) dX12_isSideAt_1 (by decide) (fun c1 => ?_) (fun c1 => ?_)
  · replace h := z_ift c1 h
    refine g_iconst (v := (1 : Int32)) dX12_isSideAt_9 (by decide) ?_
    refine g_goto (t := 14) dX12_isSideAt_10 (by decide) ?_
    cases h
    exact g_iret dX12_isSideAt_14 rfl rfl hq
  · replace h := z_iff c1 h
    refine g_iload_n dX12_isSideAt_4 rfl rfl ?_
    refine g_iconst (v := (1 : Int32)) dX12_isSideAt_5 (by decide) ?_
    refine g_ic_ne (t := 13) dX12_isSideAt_6 (by decide) (fun c2 => ?_) (fun c2 => ?_)
    · replace h := z_iff c2 h
      refine g_iconst (v := (0 : Int32)) dX12_isSideAt_13 (by decide) ?_
      cases h
      exact g_iret dX12_isSideAt_14 rfl rfl hq
    · replace h := z_ift c2 h
      refine g_iconst (v := (1 : Int32)) dX12_isSideAt_9 (by decide) ?_
      refine g_goto (t := 14) dX12_isSideAt_10 (by decide) ?_
      cases h
      exact g_iret dX12_isSideAt_14 rfl rfl hq
theorem dX12_isRightAt_0 : decode cX12_isRightAt 0 = .ok (.iload_n 1, 1) := by decide +kernel
theorem dX12_isRightAt_1 : decode cX12_isRightAt 1 = .ok (.i2l, 1) := by decide +kernel
theorem dX12_isRightAt_2 : decode cX12_isRightAt 2 = .ok (.lconst 0, 1) := by decide +kernel
theorem dX12_isRightAt_3 : decode cX12_isRightAt 3 = .ok (.aload_n 0, 1) := by decide +kernel
theorem dX12_isRightAt_4 : decode cX12_isRightAt 4 = .ok (.getfield 35, 3) := by decide +kernel
theorem dX12_isRightAt_7 : decode cX12_isRightAt 7 = .ok (.iconst 0, 1) := by decide +kernel
theorem dX12_isRightAt_8 : decode cX12_isRightAt 8 = .ok (.iaload, 1) := by decide +kernel
theorem dX12_isRightAt_9 : decode cX12_isRightAt 9 = .ok (.iconst 1, 1) := by decide +kernel
theorem dX12_isRightAt_10 : decode cX12_isRightAt 10 = .ok (.isub, 1) := by decide +kernel
theorem dX12_isRightAt_11 : decode cX12_isRightAt 11 = .ok (.i2l, 1) := by decide +kernel
theorem dX12_isRightAt_12 : decode cX12_isRightAt 12 = .ok (.invokestatic 92, 3) := by decide +kernel
theorem dX12_isRightAt_15 : decode cX12_isRightAt 15 = .ok (.ireturn, 1) := by decide +kernel
def F_X12_isRightAt (w : Nat) (M : z_Mem) (a1 : Int32) : Option (Bool × z_Mem) :=
  (F_X12_isIn w M a1.toInt64 (0 : Int64) (((M.1 142 0) - (1 : Int32)).toInt64)).bind fun q1 =>
  some (q1.1, q1.2)
set_option maxHeartbeats 4000000 in
theorem A_X12_isRightAt {w : Nat} {M : z_Mem} {a1 : Int32} {r : Bool} {M' : z_Mem} {Q : Option Value → z_Mem → Prop} (h : F_X12_isRightAt w M a1 = some (r, M')) (hq : Q (some (.int (z_tb r))) M') : z_Cl 1 mX12_isRightAt [.ref 139, .int a1] M Q := by
  refine g_in (ls := [some (.ref 139), some (.int a1)]) rfl ?_
  unfold F_X12_isRightAt at h
  refine g_iload_n dX12_isRightAt_0 rfl rfl ?_
  refine g_i2l dX12_isRightAt_1 ?_
  refine g_lconst (v := (0 : Int64)) dX12_isRightAt_2 (by decide) ?_
  refine g_aload_n dX12_isRightAt_3 rfl rfl ?_
  refine g_get (a := 137) (v := .ref 144) dX12_isRightAt_4 f_12_35 sh_137 rfl rfl ?_
  refine g_iconst (v := (0 : Int32)) dX12_isRightAt_7 (by decide) ?_
  refine g_ialN (a := 142) (j := 0) (v := M.1 142 0) dX12_isRightAt_8 sh_142 rfl (by decide) rfl ?_
  refine g_iconst (v := (1 : Int32)) dX12_isRightAt_9 (by decide) ?_
  refine g_isub dX12_isRightAt_10 ?_
  refine g_i2l dX12_isRightAt_11 ?_
  obtain ⟨q1, e2, h⟩ := z_bd h
  refine g_callS (as := [.long a1.toInt64, .long (0 : Int64), .long (((M.1 142 0) - (1 : Int32)).toInt64)]) (rest := []) (c := mX12_isIn) (k1 := 0) dX12_isRightAt_12 rfl rfl rfl rfl rfl (Nat.le_of_ble_eq_true rfl) (Nat.le_of_ble_eq_true rfl) (by decide) ?_
  refine A_X12_isIn e2 ?_
  show z_G none 1 mX12_isRightAt 15 [some (.ref 139), some (.int a1)] [.int (z_tb q1.1)] q1.2 Q
  cases h
  exact g_iret dX12_isRightAt_15 rfl nb_tb hq
theorem dX12_isDebtAt_0 : decode cX12_isDebtAt 0 = .ok (.iload_n 1, 1) := by decide +kernel
theorem dX12_isDebtAt_1 : decode cX12_isDebtAt 1 = .ok (.i2l, 1) := by decide +kernel
theorem dX12_isDebtAt_2 : decode cX12_isDebtAt 2 = .ok (.lconst 0, 1) := by decide +kernel
theorem dX12_isDebtAt_3 : decode cX12_isDebtAt 3 = .ok (.aload_n 0, 1) := by decide +kernel
theorem dX12_isDebtAt_4 : decode cX12_isDebtAt 4 = .ok (.getfield 35, 3) := by decide +kernel
theorem dX12_isDebtAt_7 : decode cX12_isDebtAt 7 = .ok (.iconst 1, 1) := by decide +kernel
theorem dX12_isDebtAt_8 : decode cX12_isDebtAt 8 = .ok (.iaload, 1) := by decide +kernel
theorem dX12_isDebtAt_9 : decode cX12_isDebtAt 9 = .ok (.iconst 1, 1) := by decide +kernel
theorem dX12_isDebtAt_10 : decode cX12_isDebtAt 10 = .ok (.isub, 1) := by decide +kernel
theorem dX12_isDebtAt_11 : decode cX12_isDebtAt 11 = .ok (.i2l, 1) := by decide +kernel
theorem dX12_isDebtAt_12 : decode cX12_isDebtAt 12 = .ok (.invokestatic 92, 3) := by decide +kernel
theorem dX12_isDebtAt_15 : decode cX12_isDebtAt 15 = .ok (.ireturn, 1) := by decide +kernel
def F_X12_isDebtAt (w : Nat) (M : z_Mem) (a1 : Int32) : Option (Bool × z_Mem) :=
  (F_X12_isIn w M a1.toInt64 (0 : Int64) (((M.1 142 1) - (1 : Int32)).toInt64)).bind fun q1 =>
  some (q1.1, q1.2)
set_option maxHeartbeats 4000000 in
theorem A_X12_isDebtAt {w : Nat} {M : z_Mem} {a1 : Int32} {r : Bool} {M' : z_Mem} {Q : Option Value → z_Mem → Prop} (h : F_X12_isDebtAt w M a1 = some (r, M')) (hq : Q (some (.int (z_tb r))) M') : z_Cl 1 mX12_isDebtAt [.ref 139, .int a1] M Q := by
  refine g_in (ls := [some (.ref 139), some (.int a1)]) rfl ?_
  unfold F_X12_isDebtAt at h
  refine g_iload_n dX12_isDebtAt_0 rfl rfl ?_
  refine g_i2l dX12_isDebtAt_1 ?_
  refine g_lconst (v := (0 : Int64)) dX12_isDebtAt_2 (by decide) ?_
  refine g_aload_n dX12_isDebtAt_3 rfl rfl ?_
  refine g_get (a := 137) (v := .ref 144) dX12_isDebtAt_4 f_12_35 sh_137 rfl rfl ?_
  refine g_iconst (v := (1 : Int32)) dX12_isDebtAt_7 (by decide) ?_
  refine g_ialN (a := 142) (j := 1) (v := M.1 142 1) dX12_isDebtAt_8 sh_142 rfl (by decide) rfl ?_
  refine g_iconst (v := (1 : Int32)) dX12_isDebtAt_9 (by decide) ?_
  refine g_isub dX12_isDebtAt_10 ?_
  refine g_i2l dX12_isDebtAt_11 ?_
  obtain ⟨q1, e2, h⟩ := z_bd h
  refine g_callS (as := [.long a1.toInt64, .long (0 : Int64), .long (((M.1 142 1) - (1 : Int32)).toInt64)]) (rest := []) (c := mX12_isIn) (k1 := 0) dX12_isDebtAt_12 rfl rfl rfl rfl rfl (Nat.le_of_ble_eq_true rfl) (Nat.le_of_ble_eq_true rfl) (by decide) ?_
  refine A_X12_isIn e2 ?_
  show z_G none 1 mX12_isDebtAt 15 [some (.ref 139), some (.int a1)] [.int (z_tb q1.1)] q1.2 Q
  cases h
  exact g_iret dX12_isDebtAt_15 rfl nb_tb hq
theorem dX12_isPlan_0 : decode cX12_isPlan 0 = .ok (.iload_n 0, 1) := by decide +kernel
theorem dX12_isPlan_1 : decode cX12_isPlan 1 = .ok (.i2l, 1) := by decide +kernel
theorem dX12_isPlan_2 : decode cX12_isPlan 2 = .ok (.lconst 0, 1) := by decide +kernel
theorem dX12_isPlan_3 : decode cX12_isPlan 3 = .ok (.ldc2_w 331, 3) := by decide +kernel
theorem dX12_isPlan_6 : decode cX12_isPlan 6 = .ok (.invokestatic 92, 3) := by decide +kernel
theorem dX12_isPlan_9 : decode cX12_isPlan 9 = .ok (.ireturn, 1) := by decide +kernel
def F_X12_isPlan (w : Nat) (M : z_Mem) (a0 : Int32) : Option (Bool × z_Mem) :=
  (F_X12_isIn w M a0.toInt64 (0 : Int64) (4095 : Int64)).bind fun q1 =>
  some (q1.1, q1.2)
set_option maxHeartbeats 4000000 in
theorem A_X12_isPlan {w : Nat} {M : z_Mem} {a0 : Int32} {r : Bool} {M' : z_Mem} {Q : Option Value → z_Mem → Prop} (h : F_X12_isPlan w M a0 = some (r, M')) (hq : Q (some (.int (z_tb r))) M') : z_Cl 1 mX12_isPlan [.int a0] M Q := by
  refine g_in (ls := [some (.int a0)]) rfl ?_
  unfold F_X12_isPlan at h
  refine g_iload_n dX12_isPlan_0 rfl rfl ?_
  refine g_i2l dX12_isPlan_1 ?_
  refine g_lconst (v := (0 : Int64)) dX12_isPlan_2 (by decide) ?_
  refine g_ldc2_w dX12_isPlan_3 rfl ?_
  obtain ⟨q1, e2, h⟩ := z_bd h
  refine g_callS (as := [.long a0.toInt64, .long (0 : Int64), .long (4095 : Int64)]) (rest := []) (c := mX12_isIn) (k1 := 0) dX12_isPlan_6 rfl rfl rfl rfl rfl (Nat.le_of_ble_eq_true rfl) (Nat.le_of_ble_eq_true rfl) (by decide) ?_
  refine A_X12_isIn e2 ?_
  show z_G none 1 mX12_isPlan 9 [some (.int a0)] [.int (z_tb q1.1)] q1.2 Q
  cases h
  exact g_iret dX12_isPlan_9 rfl nb_tb hq
theorem dX12_bothChests_0 : decode cX12_bothChests 0 = .ok (.aload_n 0, 1) := by decide +kernel
theorem dX12_bothChests_1 : decode cX12_bothChests 1 = .ok (.getfield 35, 3) := by decide +kernel
theorem dX12_bothChests_4 : decode cX12_bothChests 4 = .ok (.bipush 12, 2) := by decide +kernel
theorem dX12_bothChests_6 : decode cX12_bothChests 6 = .ok (.iaload, 1) := by decide +kernel
theorem dX12_bothChests_7 : decode cX12_bothChests 7 = .ok (.aload_n 0, 1) := by decide +kernel
theorem dX12_bothChests_8 : decode cX12_bothChests 8 = .ok (.getfield 35, 3) := by decide +kernel
theorem dX12_bothChests_11 : decode cX12_bothChests 11 = .ok (.bipush 13, 2) := by decide +kernel
theorem dX12_bothChests_13 : decode cX12_bothChests 13 = .ok (.iaload, 1) := by decide +kernel
theorem dX12_bothChests_14 : decode cX12_bothChests 14 = .ok (.iadd, 1) := by decide +kernel
theorem dX12_bothChests_15 : decode cX12_bothChests 15 = .ok (.ireturn, 1) := by decide +kernel
def F_X12_bothChests (w : Nat) (M : z_Mem) : Option (Int32 × z_Mem) :=
  some ((M.1 142 12) + (M.1 142 13), M)
set_option maxHeartbeats 4000000 in
theorem A_X12_bothChests {w : Nat} {M : z_Mem} {r : Int32} {M' : z_Mem} {Q : Option Value → z_Mem → Prop} (h : F_X12_bothChests w M = some (r, M')) (hq : Q (some (.int r)) M') : z_Cl 0 mX12_bothChests [.ref 139] M Q := by
  refine g_in (ls := [some (.ref 139)]) rfl ?_
  unfold F_X12_bothChests at h
  refine g_aload_n dX12_bothChests_0 rfl rfl ?_
  refine g_get (a := 137) (v := .ref 144) dX12_bothChests_1 f_12_35 sh_137 rfl rfl ?_
  refine g_bipush (v := (12 : Int32)) dX12_bothChests_4 (by decide) ?_
  refine g_ialN (a := 142) (j := 12) (v := M.1 142 12) dX12_bothChests_6 sh_142 rfl (by decide) rfl ?_
  refine g_aload_n dX12_bothChests_7 rfl rfl ?_
  refine g_get (a := 137) (v := .ref 144) dX12_bothChests_8 f_12_35 sh_137 rfl rfl ?_
  refine g_bipush (v := (13 : Int32)) dX12_bothChests_11 (by decide) ?_
  refine g_ialN (a := 142) (j := 13) (v := M.1 142 13) dX12_bothChests_13 sh_142 rfl (by decide) rfl ?_
  refine g_iadd dX12_bothChests_14 ?_
  cases h
  exact g_iret dX12_bothChests_15 rfl rfl hq
theorem dX12_many_0 : decode cX12_many 0 = .ok (.aload_n 0, 1) := by decide +kernel
theorem dX12_many_1 : decode cX12_many 1 = .ok (.iconst 0, 1) := by decide +kernel
theorem dX12_many_2 : decode cX12_many 2 = .ok (.putfield 57, 3) := by decide +kernel
theorem dX12_many_5 : decode cX12_many 5 = .ok (.aload_n 0, 1) := by decide +kernel
theorem dX12_many_6 : decode cX12_many 6 = .ok (.iconst 0, 1) := by decide +kernel
theorem dX12_many_7 : decode cX12_many 7 = .ok (.putfield 60, 3) := by decide +kernel
theorem dX12_many_10 : decode cX12_many 10 = .ok (.iload_n 1, 1) := by decide +kernel
theorem dX12_many_11 : decode cX12_many 11 = .ok (.i2l, 1) := by decide +kernel
theorem dX12_many_12 : decode cX12_many 12 = .ok (.lconst 0, 1) := by decide +kernel
theorem dX12_many_13 : decode cX12_many 13 = .ok (.ldc2_w 260, 3) := by decide +kernel
theorem dX12_many_16 : decode cX12_many 16 = .ok (.invokestatic 92, 3) := by decide +kernel
theorem dX12_many_19 : decode cX12_many 19 = .ok (.ifCond .eq 12, 3) := by decide +kernel
theorem dX12_many_22 : decode cX12_many 22 = .ok (.aload_n 0, 1) := by decide +kernel
theorem dX12_many_23 : decode cX12_many 23 = .ok (.getfield 35, 3) := by decide +kernel
theorem dX12_many_26 : decode cX12_many 26 = .ok (.iload_n 1, 1) := by decide +kernel
theorem dX12_many_27 : decode cX12_many 27 = .ok (.iaload, 1) := by decide +kernel
theorem dX12_many_28 : decode cX12_many 28 = .ok (.goto 8, 3) := by decide +kernel
theorem dX12_many_31 : decode cX12_many 31 = .ok (.aload_n 0, 1) := by decide +kernel
theorem dX12_many_32 : decode cX12_many 32 = .ok (.iconst 5, 1) := by decide +kernel
theorem dX12_many_33 : decode cX12_many 33 = .ok (.invokevirtual 333, 3) := by decide +kernel
theorem dX12_many_36 : decode cX12_many 36 = .ok (.ireturn, 1) := by decide +kernel
def F_X12_many (w : Nat) (M : z_Mem) (a1 : Int32) : Option (Int32 × z_Mem) :=
  (F_X12_isIn w (z_wI (z_wI M 137 1 (0 : Int32)) 137 0 (0 : Int32)) a1.toInt64 (0 : Int64) (11 : Int64)).bind fun q1 =>
  if q1.1 = true then
  if a1 < 0 ∨ 1875 ≤ a1.toNatClampNeg then none else
  some (q1.2.1 142 a1.toNatClampNeg, q1.2)
  else
  (F_X12_refuse w q1.2 (5 : Int32)).bind fun q4 =>
  some (q4.1, q4.2)
set_option maxHeartbeats 4000000 in
theorem A_X12_many {w : Nat} {M : z_Mem} {a1 : Int32} {r : Int32} {M' : z_Mem} {Q : Option Value → z_Mem → Prop} (h : F_X12_many w M a1 = some (r, M')) (hq : Q (some (.int r)) M') : z_Cl 1 mX12_many [.ref 139, .int a1] M Q := by
  refine g_in (ls := [some (.ref 139), some (.int a1)]) rfl ?_
  unfold F_X12_many at h
  refine g_aload_n dX12_many_0 rfl rfl ?_
  refine g_iconst (v := (0 : Int32)) dX12_many_1 (by decide) ?_
  refine g_putI (a := 137) dX12_many_2 f_12_57 sh_137 rfl rfl rfl ?_
  refine g_aload_n dX12_many_5 rfl rfl ?_
  refine g_iconst (v := (0 : Int32)) dX12_many_6 (by decide) ?_
  refine g_putI (a := 137) dX12_many_7 f_12_60 sh_137 rfl rfl rfl ?_
  refine g_iload_n dX12_many_10 rfl rfl ?_
  refine g_i2l dX12_many_11 ?_
  refine g_lconst (v := (0 : Int64)) dX12_many_12 (by decide) ?_
  refine g_ldc2_w dX12_many_13 rfl ?_
  obtain ⟨q1, e2, h⟩ := z_bd h
  refine g_callS (as := [.long a1.toInt64, .long (0 : Int64), .long (11 : Int64)]) (rest := []) (c := mX12_isIn) (k1 := 0) dX12_many_16 rfl rfl rfl rfl rfl (Nat.le_of_ble_eq_true rfl) (Nat.le_of_ble_eq_true rfl) (by decide) ?_
  refine A_X12_isIn e2 ?_
  show z_G none 1 mX12_many 19 [some (.ref 139), some (.int a1)] [.int (z_tb q1.1)] q1.2 Q
  refine g_if_eq (t := 31) dX12_many_19 (by decide) (fun c3 => ?_) (fun c3 => ?_)
  · replace h := z_iff (z_tb0.mp c3) h
    refine g_aload_n dX12_many_31 rfl rfl ?_
    refine g_iconst (v := (5 : Int32)) dX12_many_32 (by decide) ?_
    obtain ⟨q4, e5, h⟩ := z_bd h
    refine g_callV (a := 137) (as := [.int (5 : Int32)]) (rest := []) (c := mX12_refuse) (k1 := 0) dX12_many_33 rfl rfl rfl sh_137 rfl rfl (Nat.le_of_ble_eq_true rfl) (Nat.le_of_ble_eq_true rfl) (by decide) ?_
    refine A_X12_refuse e5 ?_
    show z_G none 1 mX12_many 36 [some (.ref 139), some (.int a1)] [.int q4.1] q4.2 Q
    cases h
    exact g_iret dX12_many_36 rfl rfl hq
  · replace h := z_ift (z_tbn.mp c3) h
    refine g_aload_n dX12_many_22 rfl rfl ?_
    refine g_get (a := 137) (v := .ref 144) dX12_many_23 f_12_35 sh_137 rfl rfl ?_
    refine g_iload_n dX12_many_26 rfl rfl ?_
    by_cases g6 : a1 < 0 ∨ 1875 ≤ a1.toNatClampNeg
    · rw [if_pos g6] at h; cases h
    replace h := z_iff g6 h
    refine g_iald (a := 142) dX12_many_27 sh_142 g6 ?_
    refine g_goto (t := 36) dX12_many_28 (by decide) ?_
    cases h
    exact g_iret dX12_many_36 rfl rfl hq
theorem dX12_chest_0 : decode cX12_chest 0 = .ok (.aload_n 0, 1) := by decide +kernel
theorem dX12_chest_1 : decode cX12_chest 1 = .ok (.iconst 0, 1) := by decide +kernel
theorem dX12_chest_2 : decode cX12_chest 2 = .ok (.putfield 57, 3) := by decide +kernel
theorem dX12_chest_5 : decode cX12_chest 5 = .ok (.aload_n 0, 1) := by decide +kernel
theorem dX12_chest_6 : decode cX12_chest 6 = .ok (.iconst 0, 1) := by decide +kernel
theorem dX12_chest_7 : decode cX12_chest 7 = .ok (.putfield 60, 3) := by decide +kernel
theorem dX12_chest_10 : decode cX12_chest 10 = .ok (.iload_n 1, 1) := by decide +kernel
theorem dX12_chest_11 : decode cX12_chest 11 = .ok (.invokestatic 336, 3) := by decide +kernel
theorem dX12_chest_14 : decode cX12_chest 14 = .ok (.ifCond .eq 15, 3) := by decide +kernel
theorem dX12_chest_17 : decode cX12_chest 17 = .ok (.aload_n 0, 1) := by decide +kernel
theorem dX12_chest_18 : decode cX12_chest 18 = .ok (.getfield 35, 3) := by decide +kernel
theorem dX12_chest_21 : decode cX12_chest 21 = .ok (.bipush 12, 2) := by decide +kernel
theorem dX12_chest_23 : decode cX12_chest 23 = .ok (.iload_n 1, 1) := by decide +kernel
theorem dX12_chest_24 : decode cX12_chest 24 = .ok (.iadd, 1) := by decide +kernel
theorem dX12_chest_25 : decode cX12_chest 25 = .ok (.iaload, 1) := by decide +kernel
theorem dX12_chest_26 : decode cX12_chest 26 = .ok (.goto 8, 3) := by decide +kernel
theorem dX12_chest_29 : decode cX12_chest 29 = .ok (.aload_n 0, 1) := by decide +kernel
theorem dX12_chest_30 : decode cX12_chest 30 = .ok (.iconst 2, 1) := by decide +kernel
theorem dX12_chest_31 : decode cX12_chest 31 = .ok (.invokevirtual 333, 3) := by decide +kernel
theorem dX12_chest_34 : decode cX12_chest 34 = .ok (.ireturn, 1) := by decide +kernel
def F_X12_chest (w : Nat) (M : z_Mem) (a1 : Int32) : Option (Int32 × z_Mem) :=
  (F_X12_isSideAt w (z_wI (z_wI M 137 1 (0 : Int32)) 137 0 (0 : Int32)) a1).bind fun q1 =>
  if q1.1 = true then
  if ((12 : Int32) + a1) < 0 ∨ 1875 ≤ ((12 : Int32) + a1).toNatClampNeg then none else
  some (q1.2.1 142 ((12 : Int32) + a1).toNatClampNeg, q1.2)
  else
  (F_X12_refuse w q1.2 (2 : Int32)).bind fun q4 =>
  some (q4.1, q4.2)
set_option maxHeartbeats 4000000 in
theorem A_X12_chest {w : Nat} {M : z_Mem} {a1 : Int32} {r : Int32} {M' : z_Mem} {Q : Option Value → z_Mem → Prop} (h : F_X12_chest w M a1 = some (r, M')) (hq : Q (some (.int r)) M') : z_Cl 1 mX12_chest [.ref 139, .int a1] M Q := by
  refine g_in (ls := [some (.ref 139), some (.int a1)]) rfl ?_
  unfold F_X12_chest at h
  refine g_aload_n dX12_chest_0 rfl rfl ?_
  refine g_iconst (v := (0 : Int32)) dX12_chest_1 (by decide) ?_
  refine g_putI (a := 137) dX12_chest_2 f_12_57 sh_137 rfl rfl rfl ?_
  refine g_aload_n dX12_chest_5 rfl rfl ?_
  refine g_iconst (v := (0 : Int32)) dX12_chest_6 (by decide) ?_
  refine g_putI (a := 137) dX12_chest_7 f_12_60 sh_137 rfl rfl rfl ?_
  refine g_iload_n dX12_chest_10 rfl rfl ?_
  obtain ⟨q1, e2, h⟩ := z_bd h
  refine g_callS (as := [.int a1]) (rest := []) (c := mX12_isSideAt) (k1 := 0) dX12_chest_11 rfl rfl rfl rfl rfl (Nat.le_of_ble_eq_true rfl) (Nat.le_of_ble_eq_true rfl) (by decide) ?_
  refine A_X12_isSideAt e2 ?_
  show z_G none 1 mX12_chest 14 [some (.ref 139), some (.int a1)] [.int (z_tb q1.1)] q1.2 Q
  refine g_if_eq (t := 29) dX12_chest_14 (by decide) (fun c3 => ?_) (fun c3 => ?_)
  · replace h := z_iff (z_tb0.mp c3) h
    refine g_aload_n dX12_chest_29 rfl rfl ?_
    refine g_iconst (v := (2 : Int32)) dX12_chest_30 (by decide) ?_
    obtain ⟨q4, e5, h⟩ := z_bd h
    refine g_callV (a := 137) (as := [.int (2 : Int32)]) (rest := []) (c := mX12_refuse) (k1 := 0) dX12_chest_31 rfl rfl rfl sh_137 rfl rfl (Nat.le_of_ble_eq_true rfl) (Nat.le_of_ble_eq_true rfl) (by decide) ?_
    refine A_X12_refuse e5 ?_
    show z_G none 1 mX12_chest 34 [some (.ref 139), some (.int a1)] [.int q4.1] q4.2 Q
    cases h
    exact g_iret dX12_chest_34 rfl rfl hq
  · replace h := z_ift (z_tbn.mp c3) h
    refine g_aload_n dX12_chest_17 rfl rfl ?_
    refine g_get (a := 137) (v := .ref 144) dX12_chest_18 f_12_35 sh_137 rfl rfl ?_
    refine g_bipush (v := (12 : Int32)) dX12_chest_21 (by decide) ?_
    refine g_iload_n dX12_chest_23 rfl rfl ?_
    refine g_iadd dX12_chest_24 ?_
    by_cases g6 : ((12 : Int32) + a1) < 0 ∨ 1875 ≤ ((12 : Int32) + a1).toNatClampNeg
    · rw [if_pos g6] at h; cases h
    replace h := z_iff g6 h
    refine g_iald (a := 142) dX12_chest_25 sh_142 g6 ?_
    refine g_goto (t := 34) dX12_chest_26 (by decide) ?_
    cases h
    exact g_iret dX12_chest_34 rfl rfl hq
theorem dX12_right_0 : decode cX12_right 0 = .ok (.aload_n 0, 1) := by decide +kernel
theorem dX12_right_1 : decode cX12_right 1 = .ok (.iconst 0, 1) := by decide +kernel
theorem dX12_right_2 : decode cX12_right 2 = .ok (.putfield 57, 3) := by decide +kernel
theorem dX12_right_5 : decode cX12_right 5 = .ok (.aload_n 0, 1) := by decide +kernel
theorem dX12_right_6 : decode cX12_right 6 = .ok (.iconst 0, 1) := by decide +kernel
theorem dX12_right_7 : decode cX12_right 7 = .ok (.putfield 60, 3) := by decide +kernel
theorem dX12_right_10 : decode cX12_right 10 = .ok (.aload_n 0, 1) := by decide +kernel
theorem dX12_right_11 : decode cX12_right 11 = .ok (.iload_n 1, 1) := by decide +kernel
theorem dX12_right_12 : decode cX12_right 12 = .ok (.invokevirtual 339, 3) := by decide +kernel
theorem dX12_right_15 : decode cX12_right 15 = .ok (.ifCond .ne 9, 3) := by decide +kernel
theorem dX12_right_18 : decode cX12_right 18 = .ok (.aload_n 0, 1) := by decide +kernel
theorem dX12_right_19 : decode cX12_right 19 = .ok (.iconst 2, 1) := by decide +kernel
theorem dX12_right_20 : decode cX12_right 20 = .ok (.invokevirtual 333, 3) := by decide +kernel
theorem dX12_right_23 : decode cX12_right 23 = .ok (.ireturn, 1) := by decide +kernel
theorem dX12_right_24 : decode cX12_right 24 = .ok (.iload_n 2, 1) := by decide +kernel
theorem dX12_right_25 : decode cX12_right 25 = .ok (.i2l, 1) := by decide +kernel
theorem dX12_right_26 : decode cX12_right 26 = .ok (.lconst 0, 1) := by decide +kernel
theorem dX12_right_27 : decode cX12_right 27 = .ok (.ldc2_w 342, 3) := by decide +kernel
theorem dX12_right_30 : decode cX12_right 30 = .ok (.invokestatic 92, 3) := by decide +kernel
theorem dX12_right_33 : decode cX12_right 33 = .ok (.ifCond .ne 9, 3) := by decide +kernel
theorem dX12_right_36 : decode cX12_right 36 = .ok (.aload_n 0, 1) := by decide +kernel
theorem dX12_right_37 : decode cX12_right 37 = .ok (.iconst 5, 1) := by decide +kernel
theorem dX12_right_38 : decode cX12_right 38 = .ok (.invokevirtual 333, 3) := by decide +kernel
theorem dX12_right_41 : decode cX12_right 41 = .ok (.ireturn, 1) := by decide +kernel
theorem dX12_right_42 : decode cX12_right 42 = .ok (.iload_n 2, 1) := by decide +kernel
theorem dX12_right_43 : decode cX12_right 43 = .ok (.iconst 2, 1) := by decide +kernel
theorem dX12_right_44 : decode cX12_right 44 = .ok (.if_icmp .ne 24, 3) := by decide +kernel
theorem dX12_right_47 : decode cX12_right 47 = .ok (.aload_n 0, 1) := by decide +kernel
theorem dX12_right_48 : decode cX12_right 48 = .ok (.getfield 35, 3) := by decide +kernel
theorem dX12_right_51 : decode cX12_right 51 = .ok (.bipush 36, 2) := by decide +kernel
theorem dX12_right_53 : decode cX12_right 53 = .ok (.iload_n 1, 1) := by decide +kernel
theorem dX12_right_54 : decode cX12_right 54 = .ok (.iadd, 1) := by decide +kernel
theorem dX12_right_55 : decode cX12_right 55 = .ok (.iaload, 1) := by decide +kernel
theorem dX12_right_56 : decode cX12_right 56 = .ok (.ifCond .ne 12, 3) := by decide +kernel
theorem dX12_right_59 : decode cX12_right 59 = .ok (.aload_n 0, 1) := by decide +kernel
theorem dX12_right_60 : decode cX12_right 60 = .ok (.bipush 8, 2) := by decide +kernel
theorem dX12_right_62 : decode cX12_right 62 = .ok (.invokevirtual 333, 3) := by decide +kernel
theorem dX12_right_65 : decode cX12_right 65 = .ok (.goto 17, 3) := by decide +kernel
theorem dX12_right_68 : decode cX12_right 68 = .ok (.aload_n 0, 1) := by decide +kernel
theorem dX12_right_69 : decode cX12_right 69 = .ok (.getfield 35, 3) := by decide +kernel
theorem dX12_right_72 : decode cX12_right 72 = .ok (.bipush 20, 2) := by decide +kernel
theorem dX12_right_74 : decode cX12_right 74 = .ok (.bipush 8, 2) := by decide +kernel
theorem dX12_right_76 : decode cX12_right 76 = .ok (.iload_n 2, 1) := by decide +kernel
theorem dX12_right_77 : decode cX12_right 77 = .ok (.imul, 1) := by decide +kernel
theorem dX12_right_78 : decode cX12_right 78 = .ok (.iadd, 1) := by decide +kernel
theorem dX12_right_79 : decode cX12_right 79 = .ok (.iload_n 1, 1) := by decide +kernel
theorem dX12_right_80 : decode cX12_right 80 = .ok (.iadd, 1) := by decide +kernel
theorem dX12_right_81 : decode cX12_right 81 = .ok (.iaload, 1) := by decide +kernel
theorem dX12_right_82 : decode cX12_right 82 = .ok (.ireturn, 1) := by decide +kernel
def F_X12_right (w : Nat) (M : z_Mem) (a1 : Int32) (a2 : Int32) : Option (Int32 × z_Mem) :=
  (F_X12_isRightAt w (z_wI (z_wI M 137 1 (0 : Int32)) 137 0 (0 : Int32)) a1).bind fun q1 =>
  if q1.1 = true then
  (F_X12_isIn w q1.2 a2.toInt64 (0 : Int64) (4 : Int64)).bind fun q4 =>
  if q4.1 = true then
  if a2 = (2 : Int32) then
  if ((36 : Int32) + a1) < 0 ∨ 1875 ≤ ((36 : Int32) + a1).toNatClampNeg then none else
  if (q4.2.1 142 ((36 : Int32) + a1).toNatClampNeg) = (0 : Int32) then
  (F_X12_refuse w q4.2 (8 : Int32)).bind fun q12 =>
  some (q12.1, q12.2)
  else
  if (((20 : Int32) + ((8 : Int32) * a2)) + a1) < 0 ∨ 1875 ≤ (((20 : Int32) + ((8 : Int32) * a2)) + a1).toNatClampNeg then none else
  some (q4.2.1 142 (((20 : Int32) + ((8 : Int32) * a2)) + a1).toNatClampNeg, q4.2)
  else
  if (((20 : Int32) + ((8 : Int32) * a2)) + a1) < 0 ∨ 1875 ≤ (((20 : Int32) + ((8 : Int32) * a2)) + a1).toNatClampNeg then none else
  some (q4.2.1 142 (((20 : Int32) + ((8 : Int32) * a2)) + a1).toNatClampNeg, q4.2)
  else
  (F_X12_refuse w q4.2 (5 : Int32)).bind fun q14 =>
  some (q14.1, q14.2)
  else
  (F_X12_refuse w q1.2 (2 : Int32)).bind fun q16 =>
  some (q16.1, q16.2)
set_option maxHeartbeats 4000000 in
theorem A_X12_right {w : Nat} {M : z_Mem} {a1 : Int32} {a2 : Int32} {r : Int32} {M' : z_Mem} {Q : Option Value → z_Mem → Prop} (h : F_X12_right w M a1 a2 = some (r, M')) (hq : Q (some (.int r)) M') : z_Cl 2 mX12_right [.ref 139, .int a1, .int a2] M Q := by
  refine g_in (ls := [some (.ref 139), some (.int a1), some (.int a2)]) rfl ?_
  unfold F_X12_right at h
  refine g_aload_n dX12_right_0 rfl rfl ?_
  refine g_iconst (v := (0 : Int32)) dX12_right_1 (by decide) ?_
  refine g_putI (a := 137) dX12_right_2 f_12_57 sh_137 rfl rfl rfl ?_
  refine g_aload_n dX12_right_5 rfl rfl ?_
  refine g_iconst (v := (0 : Int32)) dX12_right_6 (by decide) ?_
  refine g_putI (a := 137) dX12_right_7 f_12_60 sh_137 rfl rfl rfl ?_
  refine g_aload_n dX12_right_10 rfl rfl ?_
  refine g_iload_n dX12_right_11 rfl rfl ?_
  obtain ⟨q1, e2, h⟩ := z_bd h
  refine g_callV (a := 137) (as := [.int a1]) (rest := []) (c := mX12_isRightAt) (k1 := 1) dX12_right_12 rfl rfl rfl sh_137 rfl rfl (Nat.le_of_ble_eq_true rfl) (Nat.le_of_ble_eq_true rfl) (by decide) ?_
  refine A_X12_isRightAt e2 ?_
  show z_G none 2 mX12_right 15 [some (.ref 139), some (.int a1), some (.int a2)] [.int (z_tb q1.1)] q1.2 Q
  refine g_if_ne (t := 24) dX12_right_15 (by decide) (fun c3 => ?_) (fun c3 => ?_)
  · replace h := z_ift (z_tbn.mp c3) h
    refine g_iload_n dX12_right_24 rfl rfl ?_
    refine g_i2l dX12_right_25 ?_
    refine g_lconst (v := (0 : Int64)) dX12_right_26 (by decide) ?_
    refine g_ldc2_w dX12_right_27 rfl ?_
    obtain ⟨q4, e5, h⟩ := z_bd h
    refine g_callS (as := [.long a2.toInt64, .long (0 : Int64), .long (4 : Int64)]) (rest := []) (c := mX12_isIn) (k1 := 0) dX12_right_30 rfl rfl rfl rfl rfl (Nat.le_of_ble_eq_true rfl) (Nat.le_of_ble_eq_true rfl) (by decide) ?_
    refine A_X12_isIn e5 ?_
    show z_G none 2 mX12_right 33 [some (.ref 139), some (.int a1), some (.int a2)] [.int (z_tb q4.1)] q4.2 Q
    refine g_if_ne (t := 42) dX12_right_33 (by decide) (fun c6 => ?_) (fun c6 => ?_)
    · replace h := z_ift (z_tbn.mp c6) h
      refine g_iload_n dX12_right_42 rfl rfl ?_
      refine g_iconst (v := (2 : Int32)) dX12_right_43 (by decide) ?_
      refine g_ic_ne (t := 68) dX12_right_44 (by decide) (fun c7 => ?_) (fun c7 => ?_)
      · replace h := z_iff c7 h
        refine g_aload_n dX12_right_68 rfl rfl ?_
        refine g_get (a := 137) (v := .ref 144) dX12_right_69 f_12_35 sh_137 rfl rfl ?_
        refine g_bipush (v := (20 : Int32)) dX12_right_72 (by decide) ?_
        refine g_bipush (v := (8 : Int32)) dX12_right_74 (by decide) ?_
        refine g_iload_n dX12_right_76 rfl rfl ?_
        refine g_imul dX12_right_77 ?_
        refine g_iadd dX12_right_78 ?_
        refine g_iload_n dX12_right_79 rfl rfl ?_
        refine g_iadd dX12_right_80 ?_
        by_cases g8 : (((20 : Int32) + ((8 : Int32) * a2)) + a1) < 0 ∨ 1875 ≤ (((20 : Int32) + ((8 : Int32) * a2)) + a1).toNatClampNeg
        · rw [if_pos g8] at h; cases h
        replace h := z_iff g8 h
        refine g_iald (a := 142) dX12_right_81 sh_142 g8 ?_
        cases h
        exact g_iret dX12_right_82 rfl rfl hq
      · replace h := z_ift c7 h
        refine g_aload_n dX12_right_47 rfl rfl ?_
        refine g_get (a := 137) (v := .ref 144) dX12_right_48 f_12_35 sh_137 rfl rfl ?_
        refine g_bipush (v := (36 : Int32)) dX12_right_51 (by decide) ?_
        refine g_iload_n dX12_right_53 rfl rfl ?_
        refine g_iadd dX12_right_54 ?_
        by_cases g9 : ((36 : Int32) + a1) < 0 ∨ 1875 ≤ ((36 : Int32) + a1).toNatClampNeg
        · rw [if_pos g9] at h; cases h
        replace h := z_iff g9 h
        refine g_iald (a := 142) dX12_right_55 sh_142 g9 ?_
        refine g_if_ne (t := 68) dX12_right_56 (by decide) (fun c10 => ?_) (fun c10 => ?_)
        · replace h := z_iff c10 h
          refine g_aload_n dX12_right_68 rfl rfl ?_
          refine g_get (a := 137) (v := .ref 144) dX12_right_69 f_12_35 sh_137 rfl rfl ?_
          refine g_bipush (v := (20 : Int32)) dX12_right_72 (by decide) ?_
          refine g_bipush (v := (8 : Int32)) dX12_right_74 (by decide) ?_
          refine g_iload_n dX12_right_76 rfl rfl ?_
          refine g_imul dX12_right_77 ?_
          refine g_iadd dX12_right_78 ?_
          refine g_iload_n dX12_right_79 rfl rfl ?_
          refine g_iadd dX12_right_80 ?_
          by_cases g11 : (((20 : Int32) + ((8 : Int32) * a2)) + a1) < 0 ∨ 1875 ≤ (((20 : Int32) + ((8 : Int32) * a2)) + a1).toNatClampNeg
          · rw [if_pos g11] at h; cases h
          replace h := z_iff g11 h
          refine g_iald (a := 142) dX12_right_81 sh_142 g11 ?_
          cases h
          exact g_iret dX12_right_82 rfl rfl hq
        · replace h := z_ift c10 h
          refine g_aload_n dX12_right_59 rfl rfl ?_
          refine g_bipush (v := (8 : Int32)) dX12_right_60 (by decide) ?_
          obtain ⟨q12, e13, h⟩ := z_bd h
          refine g_callV (a := 137) (as := [.int (8 : Int32)]) (rest := []) (c := mX12_refuse) (k1 := 0) dX12_right_62 rfl rfl rfl sh_137 rfl rfl (Nat.le_of_ble_eq_true rfl) (Nat.le_of_ble_eq_true rfl) (by decide) ?_
          refine A_X12_refuse e13 ?_
          show z_G none 2 mX12_right 65 [some (.ref 139), some (.int a1), some (.int a2)] [.int q12.1] q12.2 Q
          refine g_goto (t := 82) dX12_right_65 (by decide) ?_
          cases h
          exact g_iret dX12_right_82 rfl rfl hq
    · replace h := z_iff (z_tb0.mp c6) h
      refine g_aload_n dX12_right_36 rfl rfl ?_
      refine g_iconst (v := (5 : Int32)) dX12_right_37 (by decide) ?_
      obtain ⟨q14, e15, h⟩ := z_bd h
      refine g_callV (a := 137) (as := [.int (5 : Int32)]) (rest := []) (c := mX12_refuse) (k1 := 0) dX12_right_38 rfl rfl rfl sh_137 rfl rfl (Nat.le_of_ble_eq_true rfl) (Nat.le_of_ble_eq_true rfl) (by decide) ?_
      refine A_X12_refuse e15 ?_
      show z_G none 2 mX12_right 41 [some (.ref 139), some (.int a1), some (.int a2)] [.int q14.1] q14.2 Q
      cases h
      exact g_iret dX12_right_41 rfl rfl hq
  · replace h := z_iff (z_tb0.mp c3) h
    refine g_aload_n dX12_right_18 rfl rfl ?_
    refine g_iconst (v := (2 : Int32)) dX12_right_19 (by decide) ?_
    obtain ⟨q16, e17, h⟩ := z_bd h
    refine g_callV (a := 137) (as := [.int (2 : Int32)]) (rest := []) (c := mX12_refuse) (k1 := 0) dX12_right_20 rfl rfl rfl sh_137 rfl rfl (Nat.le_of_ble_eq_true rfl) (Nat.le_of_ble_eq_true rfl) (by decide) ?_
    refine A_X12_refuse e17 ?_
    show z_G none 2 mX12_right 23 [some (.ref 139), some (.int a1), some (.int a2)] [.int q16.1] q16.2 Q
    cases h
    exact g_iret dX12_right_23 rfl rfl hq
theorem dX12_debt_0 : decode cX12_debt 0 = .ok (.aload_n 0, 1) := by decide +kernel
theorem dX12_debt_1 : decode cX12_debt 1 = .ok (.iconst 0, 1) := by decide +kernel
theorem dX12_debt_2 : decode cX12_debt 2 = .ok (.putfield 57, 3) := by decide +kernel
theorem dX12_debt_5 : decode cX12_debt 5 = .ok (.aload_n 0, 1) := by decide +kernel
theorem dX12_debt_6 : decode cX12_debt 6 = .ok (.iconst 0, 1) := by decide +kernel
theorem dX12_debt_7 : decode cX12_debt 7 = .ok (.putfield 60, 3) := by decide +kernel
theorem dX12_debt_10 : decode cX12_debt 10 = .ok (.aload_n 0, 1) := by decide +kernel
theorem dX12_debt_11 : decode cX12_debt 11 = .ok (.iload_n 1, 1) := by decide +kernel
theorem dX12_debt_12 : decode cX12_debt 12 = .ok (.invokevirtual 344, 3) := by decide +kernel
theorem dX12_debt_15 : decode cX12_debt 15 = .ok (.ifCond .ne 9, 3) := by decide +kernel
theorem dX12_debt_18 : decode cX12_debt 18 = .ok (.aload_n 0, 1) := by decide +kernel
theorem dX12_debt_19 : decode cX12_debt 19 = .ok (.iconst 2, 1) := by decide +kernel
theorem dX12_debt_20 : decode cX12_debt 20 = .ok (.invokevirtual 333, 3) := by decide +kernel
theorem dX12_debt_23 : decode cX12_debt 23 = .ok (.ireturn, 1) := by decide +kernel
theorem dX12_debt_24 : decode cX12_debt 24 = .ok (.iload_n 2, 1) := by decide +kernel
theorem dX12_debt_25 : decode cX12_debt 25 = .ok (.i2l, 1) := by decide +kernel
theorem dX12_debt_26 : decode cX12_debt 26 = .ok (.lconst 0, 1) := by decide +kernel
theorem dX12_debt_27 : decode cX12_debt 27 = .ok (.ldc2_w 347, 3) := by decide +kernel
theorem dX12_debt_30 : decode cX12_debt 30 = .ok (.invokestatic 92, 3) := by decide +kernel
theorem dX12_debt_33 : decode cX12_debt 33 = .ok (.ifCond .eq 19, 3) := by decide +kernel
theorem dX12_debt_36 : decode cX12_debt 36 = .ok (.aload_n 0, 1) := by decide +kernel
theorem dX12_debt_37 : decode cX12_debt 37 = .ok (.getfield 35, 3) := by decide +kernel
theorem dX12_debt_40 : decode cX12_debt 40 = .ok (.bipush 60, 2) := by decide +kernel
theorem dX12_debt_42 : decode cX12_debt 42 = .ok (.iconst 5, 1) := by decide +kernel
theorem dX12_debt_43 : decode cX12_debt 43 = .ok (.iload_n 2, 1) := by decide +kernel
theorem dX12_debt_44 : decode cX12_debt 44 = .ok (.imul, 1) := by decide +kernel
theorem dX12_debt_45 : decode cX12_debt 45 = .ok (.iadd, 1) := by decide +kernel
theorem dX12_debt_46 : decode cX12_debt 46 = .ok (.iload_n 1, 1) := by decide +kernel
theorem dX12_debt_47 : decode cX12_debt 47 = .ok (.iadd, 1) := by decide +kernel
theorem dX12_debt_48 : decode cX12_debt 48 = .ok (.iaload, 1) := by decide +kernel
theorem dX12_debt_49 : decode cX12_debt 49 = .ok (.goto 8, 3) := by decide +kernel
theorem dX12_debt_52 : decode cX12_debt 52 = .ok (.aload_n 0, 1) := by decide +kernel
theorem dX12_debt_53 : decode cX12_debt 53 = .ok (.iconst 5, 1) := by decide +kernel
theorem dX12_debt_54 : decode cX12_debt 54 = .ok (.invokevirtual 333, 3) := by decide +kernel
theorem dX12_debt_57 : decode cX12_debt 57 = .ok (.ireturn, 1) := by decide +kernel
def F_X12_debt (w : Nat) (M : z_Mem) (a1 : Int32) (a2 : Int32) : Option (Int32 × z_Mem) :=
  (F_X12_isDebtAt w (z_wI (z_wI M 137 1 (0 : Int32)) 137 0 (0 : Int32)) a1).bind fun q1 =>
  if q1.1 = true then
  (F_X12_isIn w q1.2 a2.toInt64 (0 : Int64) (2 : Int64)).bind fun q4 =>
  if q4.1 = true then
  if (((60 : Int32) + ((5 : Int32) * a2)) + a1) < 0 ∨ 1875 ≤ (((60 : Int32) + ((5 : Int32) * a2)) + a1).toNatClampNeg then none else
  some (q4.2.1 142 (((60 : Int32) + ((5 : Int32) * a2)) + a1).toNatClampNeg, q4.2)
  else
  (F_X12_refuse w q4.2 (5 : Int32)).bind fun q7 =>
  some (q7.1, q7.2)
  else
  (F_X12_refuse w q1.2 (2 : Int32)).bind fun q10 =>
  some (q10.1, q10.2)
set_option maxHeartbeats 4000000 in
theorem A_X12_debt {w : Nat} {M : z_Mem} {a1 : Int32} {a2 : Int32} {r : Int32} {M' : z_Mem} {Q : Option Value → z_Mem → Prop} (h : F_X12_debt w M a1 a2 = some (r, M')) (hq : Q (some (.int r)) M') : z_Cl 2 mX12_debt [.ref 139, .int a1, .int a2] M Q := by
  refine g_in (ls := [some (.ref 139), some (.int a1), some (.int a2)]) rfl ?_
  unfold F_X12_debt at h
  refine g_aload_n dX12_debt_0 rfl rfl ?_
  refine g_iconst (v := (0 : Int32)) dX12_debt_1 (by decide) ?_
  refine g_putI (a := 137) dX12_debt_2 f_12_57 sh_137 rfl rfl rfl ?_
  refine g_aload_n dX12_debt_5 rfl rfl ?_
  refine g_iconst (v := (0 : Int32)) dX12_debt_6 (by decide) ?_
  refine g_putI (a := 137) dX12_debt_7 f_12_60 sh_137 rfl rfl rfl ?_
  refine g_aload_n dX12_debt_10 rfl rfl ?_
  refine g_iload_n dX12_debt_11 rfl rfl ?_
  obtain ⟨q1, e2, h⟩ := z_bd h
  refine g_callV (a := 137) (as := [.int a1]) (rest := []) (c := mX12_isDebtAt) (k1 := 1) dX12_debt_12 rfl rfl rfl sh_137 rfl rfl (Nat.le_of_ble_eq_true rfl) (Nat.le_of_ble_eq_true rfl) (by decide) ?_
  refine A_X12_isDebtAt e2 ?_
  show z_G none 2 mX12_debt 15 [some (.ref 139), some (.int a1), some (.int a2)] [.int (z_tb q1.1)] q1.2 Q
  refine g_if_ne (t := 24) dX12_debt_15 (by decide) (fun c3 => ?_) (fun c3 => ?_)
  · replace h := z_ift (z_tbn.mp c3) h
    refine g_iload_n dX12_debt_24 rfl rfl ?_
    refine g_i2l dX12_debt_25 ?_
    refine g_lconst (v := (0 : Int64)) dX12_debt_26 (by decide) ?_
    refine g_ldc2_w dX12_debt_27 rfl ?_
    obtain ⟨q4, e5, h⟩ := z_bd h
    refine g_callS (as := [.long a2.toInt64, .long (0 : Int64), .long (2 : Int64)]) (rest := []) (c := mX12_isIn) (k1 := 0) dX12_debt_30 rfl rfl rfl rfl rfl (Nat.le_of_ble_eq_true rfl) (Nat.le_of_ble_eq_true rfl) (by decide) ?_
    refine A_X12_isIn e5 ?_
    show z_G none 2 mX12_debt 33 [some (.ref 139), some (.int a1), some (.int a2)] [.int (z_tb q4.1)] q4.2 Q
    refine g_if_eq (t := 52) dX12_debt_33 (by decide) (fun c6 => ?_) (fun c6 => ?_)
    · replace h := z_iff (z_tb0.mp c6) h
      refine g_aload_n dX12_debt_52 rfl rfl ?_
      refine g_iconst (v := (5 : Int32)) dX12_debt_53 (by decide) ?_
      obtain ⟨q7, e8, h⟩ := z_bd h
      refine g_callV (a := 137) (as := [.int (5 : Int32)]) (rest := []) (c := mX12_refuse) (k1 := 0) dX12_debt_54 rfl rfl rfl sh_137 rfl rfl (Nat.le_of_ble_eq_true rfl) (Nat.le_of_ble_eq_true rfl) (by decide) ?_
      refine A_X12_refuse e8 ?_
      show z_G none 2 mX12_debt 57 [some (.ref 139), some (.int a1), some (.int a2)] [.int q7.1] q7.2 Q
      cases h
      exact g_iret dX12_debt_57 rfl rfl hq
    · replace h := z_ift (z_tbn.mp c6) h
      refine g_aload_n dX12_debt_36 rfl rfl ?_
      refine g_get (a := 137) (v := .ref 144) dX12_debt_37 f_12_35 sh_137 rfl rfl ?_
      refine g_bipush (v := (60 : Int32)) dX12_debt_40 (by decide) ?_
      refine g_iconst (v := (5 : Int32)) dX12_debt_42 (by decide) ?_
      refine g_iload_n dX12_debt_43 rfl rfl ?_
      refine g_imul dX12_debt_44 ?_
      refine g_iadd dX12_debt_45 ?_
      refine g_iload_n dX12_debt_46 rfl rfl ?_
      refine g_iadd dX12_debt_47 ?_
      by_cases g9 : (((60 : Int32) + ((5 : Int32) * a2)) + a1) < 0 ∨ 1875 ≤ (((60 : Int32) + ((5 : Int32) * a2)) + a1).toNatClampNeg
      · rw [if_pos g9] at h; cases h
      replace h := z_iff g9 h
      refine g_iald (a := 142) dX12_debt_48 sh_142 g9 ?_
      refine g_goto (t := 57) dX12_debt_49 (by decide) ?_
      cases h
      exact g_iret dX12_debt_57 rfl rfl hq
  · replace h := z_iff (z_tb0.mp c3) h
    refine g_aload_n dX12_debt_18 rfl rfl ?_
    refine g_iconst (v := (2 : Int32)) dX12_debt_19 (by decide) ?_
    obtain ⟨q10, e11, h⟩ := z_bd h
    refine g_callV (a := 137) (as := [.int (2 : Int32)]) (rest := []) (c := mX12_refuse) (k1 := 0) dX12_debt_20 rfl rfl rfl sh_137 rfl rfl (Nat.le_of_ble_eq_true rfl) (Nat.le_of_ble_eq_true rfl) (by decide) ?_
    refine A_X12_refuse e11 ?_
    show z_G none 2 mX12_debt 23 [some (.ref 139), some (.int a1), some (.int a2)] [.int q10.1] q10.2 Q
    cases h
    exact g_iret dX12_debt_23 rfl rfl hq
theorem dX12_owed_0 : decode cX12_owed 0 = .ok (.iconst 0, 1) := by decide +kernel
theorem dX12_owed_1 : decode cX12_owed 1 = .ok (.istore_n 2, 1) := by decide +kernel
theorem dX12_owed_2 : decode cX12_owed 2 = .ok (.iconst 0, 1) := by decide +kernel
theorem dX12_owed_3 : decode cX12_owed 3 = .ok (.istore_n 3, 1) := by decide +kernel
theorem dX12_owed_4 : decode cX12_owed 4 = .ok (.iload_n 3, 1) := by decide +kernel
theorem dX12_owed_5 : decode cX12_owed 5 = .ok (.aload_n 0, 1) := by decide +kernel
theorem dX12_owed_6 : decode cX12_owed 6 = .ok (.getfield 35, 3) := by decide +kernel
theorem dX12_owed_9 : decode cX12_owed 9 = .ok (.iconst 1, 1) := by decide +kernel
theorem dX12_owed_10 : decode cX12_owed 10 = .ok (.iaload, 1) := by decide +kernel
theorem dX12_owed_11 : decode cX12_owed 11 = .ok (.if_icmp .ge 38, 3) := by decide +kernel
theorem dX12_owed_14 : decode cX12_owed 14 = .ok (.iload_n 2, 1) := by decide +kernel
theorem dX12_owed_15 : decode cX12_owed 15 = .ok (.aload_n 0, 1) := by decide +kernel
theorem dX12_owed_16 : decode cX12_owed 16 = .ok (.getfield 35, 3) := by decide +kernel
theorem dX12_owed_19 : decode cX12_owed 19 = .ok (.bipush 60, 2) := by decide +kernel
theorem dX12_owed_21 : decode cX12_owed 21 = .ok (.iload_n 3, 1) := by decide +kernel
theorem dX12_owed_22 : decode cX12_owed 22 = .ok (.iadd, 1) := by decide +kernel
theorem dX12_owed_23 : decode cX12_owed 23 = .ok (.iaload, 1) := by decide +kernel
theorem dX12_owed_24 : decode cX12_owed 24 = .ok (.iload_n 1, 1) := by decide +kernel
theorem dX12_owed_25 : decode cX12_owed 25 = .ok (.if_icmp .ne 15, 3) := by decide +kernel
theorem dX12_owed_28 : decode cX12_owed 28 = .ok (.aload_n 0, 1) := by decide +kernel
theorem dX12_owed_29 : decode cX12_owed 29 = .ok (.getfield 35, 3) := by decide +kernel
theorem dX12_owed_32 : decode cX12_owed 32 = .ok (.bipush 65, 2) := by decide +kernel
theorem dX12_owed_34 : decode cX12_owed 34 = .ok (.iload_n 3, 1) := by decide +kernel
theorem dX12_owed_35 : decode cX12_owed 35 = .ok (.iadd, 1) := by decide +kernel
theorem dX12_owed_36 : decode cX12_owed 36 = .ok (.iaload, 1) := by decide +kernel
theorem dX12_owed_37 : decode cX12_owed 37 = .ok (.goto 4, 3) := by decide +kernel
theorem dX12_owed_40 : decode cX12_owed 40 = .ok (.iconst 0, 1) := by decide +kernel
theorem dX12_owed_41 : decode cX12_owed 41 = .ok (.iadd, 1) := by decide +kernel
theorem dX12_owed_42 : decode cX12_owed 42 = .ok (.istore_n 2, 1) := by decide +kernel
theorem dX12_owed_43 : decode cX12_owed 43 = .ok (.iinc 3 1, 3) := by decide +kernel
theorem dX12_owed_46 : decode cX12_owed 46 = .ok (.goto (-42), 3) := by decide +kernel
theorem dX12_owed_49 : decode cX12_owed 49 = .ok (.iload_n 2, 1) := by decide +kernel
theorem dX12_owed_50 : decode cX12_owed 50 = .ok (.ireturn, 1) := by decide +kernel
def L_X12_owed (w : Nat) : Nat → z_Mem → Int32 → Int32 → Int32 → Option (Int32 × z_Mem)
  | 0, _, _, _, _ => none
  | c + 1, M, x1, x2, x3 =>
    if (M.1 142 1) ≤ x3 then
    some (x2, M)
    else
    if ((60 : Int32) + x3) < 0 ∨ 1875 ≤ ((60 : Int32) + x3).toNatClampNeg then none else
    if (M.1 142 ((60 : Int32) + x3).toNatClampNeg) = x1 then
    if ((65 : Int32) + x3) < 0 ∨ 1875 ≤ ((65 : Int32) + x3).toNatClampNeg then none else
    L_X12_owed w c M x1 (x2 + (M.1 142 ((65 : Int32) + x3).toNatClampNeg)) (x3 + (1 : Int32))
    else
    L_X12_owed w c M x1 (x2 + (0 : Int32)) (x3 + (1 : Int32))
set_option maxHeartbeats 4000000 in
theorem AL_X12_owed {w : Nat} : ∀ (c : Nat), (∀ (M : z_Mem) (x1 : Int32) (x2 : Int32) (x3 : Int32) (r : Int32) (M' : z_Mem) (Q : Option Value → z_Mem → Prop), L_X12_owed w c M x1 x2 x3 = some (r, M') → Q (some (.int r)) M' → z_G none 0 mX12_owed 4 [some (.ref 139), some (.int x1), some (.int x2), some (.int x3)] [] M Q) := by
  intro c
  induction c with
  | zero => exact (fun M x1 x2 x3 r M' Q h hq => by rw [L_X12_owed] at h; cases h)
  | succ c ih =>
    intro M x1 x2 x3 r M' Q h hq
    rw [L_X12_owed] at h
    refine g_iload_n dX12_owed_4 rfl rfl ?_
    refine g_aload_n dX12_owed_5 rfl rfl ?_
    refine g_get (a := 137) (v := .ref 144) dX12_owed_6 f_12_35 sh_137 rfl rfl ?_
    refine g_iconst (v := (1 : Int32)) dX12_owed_9 (by decide) ?_
    refine g_ialN (a := 142) (j := 1) (v := M.1 142 1) dX12_owed_10 sh_142 rfl (by decide) rfl ?_
    refine g_ic_ge (t := 49) dX12_owed_11 (by decide) (fun c1 => ?_) (fun c1 => ?_)
    · replace h := z_ift c1 h
      refine g_iload_n dX12_owed_49 rfl rfl ?_
      cases h
      exact g_iret dX12_owed_50 rfl rfl hq
    · replace h := z_iff c1 h
      refine g_iload_n dX12_owed_14 rfl rfl ?_
      refine g_aload_n dX12_owed_15 rfl rfl ?_
      refine g_get (a := 137) (v := .ref 144) dX12_owed_16 f_12_35 sh_137 rfl rfl ?_
      refine g_bipush (v := (60 : Int32)) dX12_owed_19 (by decide) ?_
      refine g_iload_n dX12_owed_21 rfl rfl ?_
      refine g_iadd dX12_owed_22 ?_
      by_cases g2 : ((60 : Int32) + x3) < 0 ∨ 1875 ≤ ((60 : Int32) + x3).toNatClampNeg
      · rw [if_pos g2] at h; cases h
      replace h := z_iff g2 h
      refine g_iald (a := 142) dX12_owed_23 sh_142 g2 ?_
      refine g_iload_n dX12_owed_24 rfl rfl ?_
      refine g_ic_ne (t := 40) dX12_owed_25 (by decide) (fun c3 => ?_) (fun c3 => ?_)
      · replace h := z_iff c3 h
        refine g_iconst (v := (0 : Int32)) dX12_owed_40 (by decide) ?_
        refine g_iadd dX12_owed_41 ?_
        refine g_istore_n (ls' := [some (.ref 139), some (.int x1), some (.int (x2 + (0 : Int32))), some (.int x3)]) dX12_owed_42 rfl (Nat.le_of_ble_eq_true rfl) rfl ?_
        refine g_iinc (v := x3 + (1 : Int32)) (ls' := [some (.ref 139), some (.int x1), some (.int (x2 + (0 : Int32))), some (.int (x3 + (1 : Int32)))]) dX12_owed_43 rfl rfl rfl ?_
        refine g_goto (t := 4) dX12_owed_46 (by decide) ?_
        exact g_sub (z_sub_s (z_sub_s (z_sub_s (z_sub_s z_sub_nil)))) (ih _ _ _ _ _ _ _ h hq)
      · replace h := z_ift c3 h
        refine g_aload_n dX12_owed_28 rfl rfl ?_
        refine g_get (a := 137) (v := .ref 144) dX12_owed_29 f_12_35 sh_137 rfl rfl ?_
        refine g_bipush (v := (65 : Int32)) dX12_owed_32 (by decide) ?_
        refine g_iload_n dX12_owed_34 rfl rfl ?_
        refine g_iadd dX12_owed_35 ?_
        by_cases g4 : ((65 : Int32) + x3) < 0 ∨ 1875 ≤ ((65 : Int32) + x3).toNatClampNeg
        · rw [if_pos g4] at h; cases h
        replace h := z_iff g4 h
        refine g_iald (a := 142) dX12_owed_36 sh_142 g4 ?_
        refine g_goto (t := 41) dX12_owed_37 (by decide) ?_
        refine g_iadd dX12_owed_41 ?_
        refine g_istore_n (ls' := [some (.ref 139), some (.int x1), some (.int (x2 + (M.1 142 ((65 : Int32) + x3).toNatClampNeg))), some (.int x3)]) dX12_owed_42 rfl (Nat.le_of_ble_eq_true rfl) rfl ?_
        refine g_iinc (v := x3 + (1 : Int32)) (ls' := [some (.ref 139), some (.int x1), some (.int (x2 + (M.1 142 ((65 : Int32) + x3).toNatClampNeg))), some (.int (x3 + (1 : Int32)))]) dX12_owed_43 rfl rfl rfl ?_
        refine g_goto (t := 4) dX12_owed_46 (by decide) ?_
        exact g_sub (z_sub_s (z_sub_s (z_sub_s (z_sub_s z_sub_nil)))) (ih _ _ _ _ _ _ _ h hq)
def F_X12_owed (w : Nat) (M : z_Mem) (a1 : Int32) : Option (Int32 × z_Mem) :=
  L_X12_owed w w M a1 (0 : Int32) (0 : Int32)
set_option maxHeartbeats 4000000 in
theorem A_X12_owed {w : Nat} {M : z_Mem} {a1 : Int32} {r : Int32} {M' : z_Mem} {Q : Option Value → z_Mem → Prop} (h : F_X12_owed w M a1 = some (r, M')) (hq : Q (some (.int r)) M') : z_Cl 0 mX12_owed [.ref 139, .int a1] M Q := by
  refine g_in (ls := [some (.ref 139), some (.int a1), none, none]) rfl ?_
  unfold F_X12_owed at h
  refine g_iconst (v := (0 : Int32)) dX12_owed_0 (by decide) ?_
  refine g_istore_n (ls' := [some (.ref 139), some (.int a1), some (.int (0 : Int32)), none]) dX12_owed_1 rfl (Nat.le_of_ble_eq_true rfl) rfl ?_
  refine g_iconst (v := (0 : Int32)) dX12_owed_2 (by decide) ?_
  refine g_istore_n (ls' := [some (.ref 139), some (.int a1), some (.int (0 : Int32)), some (.int (0 : Int32))]) dX12_owed_3 rfl (Nat.le_of_ble_eq_true rfl) rfl ?_
  exact g_sub (z_sub_s (z_sub_s (z_sub_s (z_sub_s z_sub_nil)))) ((AL_X12_owed (w := w) w) _ _ _ _ _ _ _ h hq)
theorem dX12_owes_0 : decode cX12_owes 0 = .ok (.aload_n 0, 1) := by decide +kernel
theorem dX12_owes_1 : decode cX12_owes 1 = .ok (.iconst 0, 1) := by decide +kernel
theorem dX12_owes_2 : decode cX12_owes 2 = .ok (.putfield 57, 3) := by decide +kernel
theorem dX12_owes_5 : decode cX12_owes 5 = .ok (.aload_n 0, 1) := by decide +kernel
theorem dX12_owes_6 : decode cX12_owes 6 = .ok (.iconst 0, 1) := by decide +kernel
theorem dX12_owes_7 : decode cX12_owes 7 = .ok (.putfield 60, 3) := by decide +kernel
theorem dX12_owes_10 : decode cX12_owes 10 = .ok (.iload_n 1, 1) := by decide +kernel
theorem dX12_owes_11 : decode cX12_owes 11 = .ok (.invokestatic 336, 3) := by decide +kernel
theorem dX12_owes_14 : decode cX12_owes 14 = .ok (.ifCond .eq 11, 3) := by decide +kernel
theorem dX12_owes_17 : decode cX12_owes 17 = .ok (.aload_n 0, 1) := by decide +kernel
theorem dX12_owes_18 : decode cX12_owes 18 = .ok (.iload_n 1, 1) := by decide +kernel
theorem dX12_owes_19 : decode cX12_owes 19 = .ok (.invokevirtual 349, 3) := by decide +kernel
theorem dX12_owes_22 : decode cX12_owes 22 = .ok (.goto 8, 3) := by decide +kernel
theorem dX12_owes_25 : decode cX12_owes 25 = .ok (.aload_n 0, 1) := by decide +kernel
theorem dX12_owes_26 : decode cX12_owes 26 = .ok (.iconst 2, 1) := by decide +kernel
theorem dX12_owes_27 : decode cX12_owes 27 = .ok (.invokevirtual 333, 3) := by decide +kernel
theorem dX12_owes_30 : decode cX12_owes 30 = .ok (.ireturn, 1) := by decide +kernel
def F_X12_owes (w : Nat) (M : z_Mem) (a1 : Int32) : Option (Int32 × z_Mem) :=
  (F_X12_isSideAt w (z_wI (z_wI M 137 1 (0 : Int32)) 137 0 (0 : Int32)) a1).bind fun q1 =>
  if q1.1 = true then
  (F_X12_owed w q1.2 a1).bind fun q6 =>
  some (q6.1, q6.2)
  else
  (F_X12_refuse w q1.2 (2 : Int32)).bind fun q4 =>
  some (q4.1, q4.2)
set_option maxHeartbeats 4000000 in
theorem A_X12_owes {w : Nat} {M : z_Mem} {a1 : Int32} {r : Int32} {M' : z_Mem} {Q : Option Value → z_Mem → Prop} (h : F_X12_owes w M a1 = some (r, M')) (hq : Q (some (.int r)) M') : z_Cl 1 mX12_owes [.ref 139, .int a1] M Q := by
  refine g_in (ls := [some (.ref 139), some (.int a1)]) rfl ?_
  unfold F_X12_owes at h
  refine g_aload_n dX12_owes_0 rfl rfl ?_
  refine g_iconst (v := (0 : Int32)) dX12_owes_1 (by decide) ?_
  refine g_putI (a := 137) dX12_owes_2 f_12_57 sh_137 rfl rfl rfl ?_
  refine g_aload_n dX12_owes_5 rfl rfl ?_
  refine g_iconst (v := (0 : Int32)) dX12_owes_6 (by decide) ?_
  refine g_putI (a := 137) dX12_owes_7 f_12_60 sh_137 rfl rfl rfl ?_
  refine g_iload_n dX12_owes_10 rfl rfl ?_
  obtain ⟨q1, e2, h⟩ := z_bd h
  refine g_callS (as := [.int a1]) (rest := []) (c := mX12_isSideAt) (k1 := 0) dX12_owes_11 rfl rfl rfl rfl rfl (Nat.le_of_ble_eq_true rfl) (Nat.le_of_ble_eq_true rfl) (by decide) ?_
  refine A_X12_isSideAt e2 ?_
  show z_G none 1 mX12_owes 14 [some (.ref 139), some (.int a1)] [.int (z_tb q1.1)] q1.2 Q
  refine g_if_eq (t := 25) dX12_owes_14 (by decide) (fun c3 => ?_) (fun c3 => ?_)
  · replace h := z_iff (z_tb0.mp c3) h
    refine g_aload_n dX12_owes_25 rfl rfl ?_
    refine g_iconst (v := (2 : Int32)) dX12_owes_26 (by decide) ?_
    obtain ⟨q4, e5, h⟩ := z_bd h
    refine g_callV (a := 137) (as := [.int (2 : Int32)]) (rest := []) (c := mX12_refuse) (k1 := 0) dX12_owes_27 rfl rfl rfl sh_137 rfl rfl (Nat.le_of_ble_eq_true rfl) (Nat.le_of_ble_eq_true rfl) (by decide) ?_
    refine A_X12_refuse e5 ?_
    show z_G none 1 mX12_owes 30 [some (.ref 139), some (.int a1)] [.int q4.1] q4.2 Q
    cases h
    exact g_iret dX12_owes_30 rfl rfl hq
  · replace h := z_ift (z_tbn.mp c3) h
    refine g_aload_n dX12_owes_17 rfl rfl ?_
    refine g_iload_n dX12_owes_18 rfl rfl ?_
    obtain ⟨q6, e7, h⟩ := z_bd h
    refine g_callV (a := 137) (as := [.int a1]) (rest := []) (c := mX12_owed) (k1 := 0) dX12_owes_19 rfl rfl rfl sh_137 rfl rfl (Nat.le_of_ble_eq_true rfl) (Nat.le_of_ble_eq_true rfl) (by decide) ?_
    refine A_X12_owed e7 ?_
    show z_G none 1 mX12_owes 22 [some (.ref 139), some (.int a1)] [.int q6.1] q6.2 Q
    refine g_goto (t := 30) dX12_owes_22 (by decide) ?_
    cases h
    exact g_iret dX12_owes_30 rfl rfl hq
theorem dX12_layOf_0 : decode cX12_layOf 0 = .ok (.iload_n 1, 1) := by decide +kernel
theorem dX12_layOf_1 : decode cX12_layOf 1 = .ok (.ifCond .ne 13, 3) := by decide +kernel
theorem dX12_layOf_4 : decode cX12_layOf 4 = .ok (.aload_n 0, 1) := by decide +kernel
theorem dX12_layOf_5 : decode cX12_layOf 5 = .ok (.getfield 35, 3) := by decide +kernel
theorem dX12_layOf_8 : decode cX12_layOf 8 = .ok (.bipush 8, 2) := by decide +kernel
theorem dX12_layOf_10 : decode cX12_layOf 10 = .ok (.iaload, 1) := by decide +kernel
theorem dX12_layOf_11 : decode cX12_layOf 11 = .ok (.goto 12, 3) := by decide +kernel
theorem dX12_layOf_14 : decode cX12_layOf 14 = .ok (.aload_n 0, 1) := by decide +kernel
theorem dX12_layOf_15 : decode cX12_layOf 15 = .ok (.getfield 35, 3) := by decide +kernel
theorem dX12_layOf_18 : decode cX12_layOf 18 = .ok (.bipush 13, 2) := by decide +kernel
theorem dX12_layOf_20 : decode cX12_layOf 20 = .ok (.iload_n 1, 1) := by decide +kernel
theorem dX12_layOf_21 : decode cX12_layOf 21 = .ok (.iadd, 1) := by decide +kernel
theorem dX12_layOf_22 : decode cX12_layOf 22 = .ok (.iaload, 1) := by decide +kernel
theorem dX12_layOf_23 : decode cX12_layOf 23 = .ok (.ireturn, 1) := by decide +kernel
def F_X12_layOf (w : Nat) (M : z_Mem) (a1 : Int32) : Option (Int32 × z_Mem) :=
  if a1 = (0 : Int32) then
  some (M.1 142 8, M)
  else
  if ((13 : Int32) + a1) < 0 ∨ 1875 ≤ ((13 : Int32) + a1).toNatClampNeg then none else
  some (M.1 142 ((13 : Int32) + a1).toNatClampNeg, M)
set_option maxHeartbeats 4000000 in
theorem A_X12_layOf {w : Nat} {M : z_Mem} {a1 : Int32} {r : Int32} {M' : z_Mem} {Q : Option Value → z_Mem → Prop} (h : F_X12_layOf w M a1 = some (r, M')) (hq : Q (some (.int r)) M') : z_Cl 0 mX12_layOf [.ref 139, .int a1] M Q := by
  refine g_in (ls := [some (.ref 139), some (.int a1)]) rfl ?_
  unfold F_X12_layOf at h
  refine g_iload_n dX12_layOf_0 rfl rfl ?_
  refine g_if_ne (t := 14) dX12_layOf_1 (by decide) (fun c1 => ?_) (fun c1 => ?_)
  · replace h := z_iff c1 h
    refine g_aload_n dX12_layOf_14 rfl rfl ?_
    refine g_get (a := 137) (v := .ref 144) dX12_layOf_15 f_12_35 sh_137 rfl rfl ?_
    refine g_bipush (v := (13 : Int32)) dX12_layOf_18 (by decide) ?_
    refine g_iload_n dX12_layOf_20 rfl rfl ?_
    refine g_iadd dX12_layOf_21 ?_
    by_cases g2 : ((13 : Int32) + a1) < 0 ∨ 1875 ≤ ((13 : Int32) + a1).toNatClampNeg
    · rw [if_pos g2] at h; cases h
    replace h := z_iff g2 h
    refine g_iald (a := 142) dX12_layOf_22 sh_142 g2 ?_
    cases h
    exact g_iret dX12_layOf_23 rfl rfl hq
  · replace h := z_ift c1 h
    refine g_aload_n dX12_layOf_4 rfl rfl ?_
    refine g_get (a := 137) (v := .ref 144) dX12_layOf_5 f_12_35 sh_137 rfl rfl ?_
    refine g_bipush (v := (8 : Int32)) dX12_layOf_8 (by decide) ?_
    refine g_ialN (a := 142) (j := 8) (v := M.1 142 8) dX12_layOf_10 sh_142 rfl (by decide) rfl ?_
    refine g_goto (t := 23) dX12_layOf_11 (by decide) ?_
    cases h
    exact g_iret dX12_layOf_23 rfl rfl hq
theorem dX12_layAgo_0 : decode cX12_layAgo 0 = .ok (.aload_n 0, 1) := by decide +kernel
theorem dX12_layAgo_1 : decode cX12_layAgo 1 = .ok (.iconst 0, 1) := by decide +kernel
theorem dX12_layAgo_2 : decode cX12_layAgo 2 = .ok (.putfield 57, 3) := by decide +kernel
theorem dX12_layAgo_5 : decode cX12_layAgo 5 = .ok (.aload_n 0, 1) := by decide +kernel
theorem dX12_layAgo_6 : decode cX12_layAgo 6 = .ok (.iconst 0, 1) := by decide +kernel
theorem dX12_layAgo_7 : decode cX12_layAgo 7 = .ok (.putfield 60, 3) := by decide +kernel
theorem dX12_layAgo_10 : decode cX12_layAgo 10 = .ok (.iload_n 1, 1) := by decide +kernel
theorem dX12_layAgo_11 : decode cX12_layAgo 11 = .ok (.i2l, 1) := by decide +kernel
theorem dX12_layAgo_12 : decode cX12_layAgo 12 = .ok (.lconst 0, 1) := by decide +kernel
theorem dX12_layAgo_13 : decode cX12_layAgo 13 = .ok (.ldc2_w 352, 3) := by decide +kernel
theorem dX12_layAgo_16 : decode cX12_layAgo 16 = .ok (.invokestatic 92, 3) := by decide +kernel
theorem dX12_layAgo_19 : decode cX12_layAgo 19 = .ok (.ifCond .eq 11, 3) := by decide +kernel
theorem dX12_layAgo_22 : decode cX12_layAgo 22 = .ok (.aload_n 0, 1) := by decide +kernel
theorem dX12_layAgo_23 : decode cX12_layAgo 23 = .ok (.iload_n 1, 1) := by decide +kernel
theorem dX12_layAgo_24 : decode cX12_layAgo 24 = .ok (.invokevirtual 354, 3) := by decide +kernel
theorem dX12_layAgo_27 : decode cX12_layAgo 27 = .ok (.goto 8, 3) := by decide +kernel
theorem dX12_layAgo_30 : decode cX12_layAgo 30 = .ok (.aload_n 0, 1) := by decide +kernel
theorem dX12_layAgo_31 : decode cX12_layAgo 31 = .ok (.iconst 5, 1) := by decide +kernel
theorem dX12_layAgo_32 : decode cX12_layAgo 32 = .ok (.invokevirtual 333, 3) := by decide +kernel
theorem dX12_layAgo_35 : decode cX12_layAgo 35 = .ok (.ireturn, 1) := by decide +kernel
def F_X12_layAgo (w : Nat) (M : z_Mem) (a1 : Int32) : Option (Int32 × z_Mem) :=
  (F_X12_isIn w (z_wI (z_wI M 137 1 (0 : Int32)) 137 0 (0 : Int32)) a1.toInt64 (0 : Int64) (6 : Int64)).bind fun q1 =>
  if q1.1 = true then
  (F_X12_layOf w q1.2 a1).bind fun q6 =>
  some (q6.1, q6.2)
  else
  (F_X12_refuse w q1.2 (5 : Int32)).bind fun q4 =>
  some (q4.1, q4.2)
set_option maxHeartbeats 4000000 in
theorem A_X12_layAgo {w : Nat} {M : z_Mem} {a1 : Int32} {r : Int32} {M' : z_Mem} {Q : Option Value → z_Mem → Prop} (h : F_X12_layAgo w M a1 = some (r, M')) (hq : Q (some (.int r)) M') : z_Cl 1 mX12_layAgo [.ref 139, .int a1] M Q := by
  refine g_in (ls := [some (.ref 139), some (.int a1)]) rfl ?_
  unfold F_X12_layAgo at h
  refine g_aload_n dX12_layAgo_0 rfl rfl ?_
  refine g_iconst (v := (0 : Int32)) dX12_layAgo_1 (by decide) ?_
  refine g_putI (a := 137) dX12_layAgo_2 f_12_57 sh_137 rfl rfl rfl ?_
  refine g_aload_n dX12_layAgo_5 rfl rfl ?_
  refine g_iconst (v := (0 : Int32)) dX12_layAgo_6 (by decide) ?_
  refine g_putI (a := 137) dX12_layAgo_7 f_12_60 sh_137 rfl rfl rfl ?_
  refine g_iload_n dX12_layAgo_10 rfl rfl ?_
  refine g_i2l dX12_layAgo_11 ?_
  refine g_lconst (v := (0 : Int64)) dX12_layAgo_12 (by decide) ?_
  refine g_ldc2_w dX12_layAgo_13 rfl ?_
  obtain ⟨q1, e2, h⟩ := z_bd h
  refine g_callS (as := [.long a1.toInt64, .long (0 : Int64), .long (6 : Int64)]) (rest := []) (c := mX12_isIn) (k1 := 0) dX12_layAgo_16 rfl rfl rfl rfl rfl (Nat.le_of_ble_eq_true rfl) (Nat.le_of_ble_eq_true rfl) (by decide) ?_
  refine A_X12_isIn e2 ?_
  show z_G none 1 mX12_layAgo 19 [some (.ref 139), some (.int a1)] [.int (z_tb q1.1)] q1.2 Q
  refine g_if_eq (t := 30) dX12_layAgo_19 (by decide) (fun c3 => ?_) (fun c3 => ?_)
  · replace h := z_iff (z_tb0.mp c3) h
    refine g_aload_n dX12_layAgo_30 rfl rfl ?_
    refine g_iconst (v := (5 : Int32)) dX12_layAgo_31 (by decide) ?_
    obtain ⟨q4, e5, h⟩ := z_bd h
    refine g_callV (a := 137) (as := [.int (5 : Int32)]) (rest := []) (c := mX12_refuse) (k1 := 0) dX12_layAgo_32 rfl rfl rfl sh_137 rfl rfl (Nat.le_of_ble_eq_true rfl) (Nat.le_of_ble_eq_true rfl) (by decide) ?_
    refine A_X12_refuse e5 ?_
    show z_G none 1 mX12_layAgo 35 [some (.ref 139), some (.int a1)] [.int q4.1] q4.2 Q
    cases h
    exact g_iret dX12_layAgo_35 rfl rfl hq
  · replace h := z_ift (z_tbn.mp c3) h
    refine g_aload_n dX12_layAgo_22 rfl rfl ?_
    refine g_iload_n dX12_layAgo_23 rfl rfl ?_
    obtain ⟨q6, e7, h⟩ := z_bd h
    refine g_callV (a := 137) (as := [.int a1]) (rest := []) (c := mX12_layOf) (k1 := 0) dX12_layAgo_24 rfl rfl rfl sh_137 rfl rfl (Nat.le_of_ble_eq_true rfl) (Nat.le_of_ble_eq_true rfl) (by decide) ?_
    refine A_X12_layOf e7 ?_
    show z_G none 1 mX12_layAgo 27 [some (.ref 139), some (.int a1)] [.int q6.1] q6.2 Q
    refine g_goto (t := 35) dX12_layAgo_27 (by decide) ?_
    cases h
    exact g_iret dX12_layAgo_35 rfl rfl hq
theorem dX12_clause_0 : decode cX12_clause 0 = .ok (.aload_n 0, 1) := by decide +kernel
theorem dX12_clause_1 : decode cX12_clause 1 = .ok (.iconst 0, 1) := by decide +kernel
theorem dX12_clause_2 : decode cX12_clause 2 = .ok (.putfield 57, 3) := by decide +kernel
theorem dX12_clause_5 : decode cX12_clause 5 = .ok (.aload_n 0, 1) := by decide +kernel
theorem dX12_clause_6 : decode cX12_clause 6 = .ok (.iconst 0, 1) := by decide +kernel
theorem dX12_clause_7 : decode cX12_clause 7 = .ok (.putfield 60, 3) := by decide +kernel
theorem dX12_clause_10 : decode cX12_clause 10 = .ok (.iload_n 1, 1) := by decide +kernel
theorem dX12_clause_11 : decode cX12_clause 11 = .ok (.i2l, 1) := by decide +kernel
theorem dX12_clause_12 : decode cX12_clause 12 = .ok (.lconst 0, 1) := by decide +kernel
theorem dX12_clause_13 : decode cX12_clause 13 = .ok (.aload_n 0, 1) := by decide +kernel
theorem dX12_clause_14 : decode cX12_clause 14 = .ok (.getfield 35, 3) := by decide +kernel
theorem dX12_clause_17 : decode cX12_clause 17 = .ok (.iconst 3, 1) := by decide +kernel
theorem dX12_clause_18 : decode cX12_clause 18 = .ok (.iaload, 1) := by decide +kernel
theorem dX12_clause_19 : decode cX12_clause 19 = .ok (.iconst 1, 1) := by decide +kernel
theorem dX12_clause_20 : decode cX12_clause 20 = .ok (.isub, 1) := by decide +kernel
theorem dX12_clause_21 : decode cX12_clause 21 = .ok (.i2l, 1) := by decide +kernel
theorem dX12_clause_22 : decode cX12_clause 22 = .ok (.invokestatic 92, 3) := by decide +kernel
theorem dX12_clause_25 : decode cX12_clause 25 = .ok (.ifCond .ne 9, 3) := by decide +kernel
theorem dX12_clause_28 : decode cX12_clause 28 = .ok (.aload_n 0, 1) := by decide +kernel
theorem dX12_clause_29 : decode cX12_clause 29 = .ok (.iconst 2, 1) := by decide +kernel
theorem dX12_clause_30 : decode cX12_clause 30 = .ok (.invokevirtual 333, 3) := by decide +kernel
theorem dX12_clause_33 : decode cX12_clause 33 = .ok (.ireturn, 1) := by decide +kernel
theorem dX12_clause_34 : decode cX12_clause 34 = .ok (.iload_n 2, 1) := by decide +kernel
theorem dX12_clause_35 : decode cX12_clause 35 = .ok (.i2l, 1) := by decide +kernel
theorem dX12_clause_36 : decode cX12_clause 36 = .ok (.lconst 0, 1) := by decide +kernel
theorem dX12_clause_37 : decode cX12_clause 37 = .ok (.lconst 1, 1) := by decide +kernel
theorem dX12_clause_38 : decode cX12_clause 38 = .ok (.invokestatic 92, 3) := by decide +kernel
theorem dX12_clause_41 : decode cX12_clause 41 = .ok (.ifCond .eq 20, 3) := by decide +kernel
theorem dX12_clause_44 : decode cX12_clause 44 = .ok (.aload_n 0, 1) := by decide +kernel
theorem dX12_clause_45 : decode cX12_clause 45 = .ok (.getfield 35, 3) := by decide +kernel
theorem dX12_clause_48 : decode cX12_clause 48 = .ok (.bipush 75, 2) := by decide +kernel
theorem dX12_clause_50 : decode cX12_clause 50 = .ok (.bipush 8, 2) := by decide +kernel
theorem dX12_clause_52 : decode cX12_clause 52 = .ok (.iload_n 2, 1) := by decide +kernel
theorem dX12_clause_53 : decode cX12_clause 53 = .ok (.imul, 1) := by decide +kernel
theorem dX12_clause_54 : decode cX12_clause 54 = .ok (.iadd, 1) := by decide +kernel
theorem dX12_clause_55 : decode cX12_clause 55 = .ok (.iload_n 1, 1) := by decide +kernel
theorem dX12_clause_56 : decode cX12_clause 56 = .ok (.iadd, 1) := by decide +kernel
theorem dX12_clause_57 : decode cX12_clause 57 = .ok (.iaload, 1) := by decide +kernel
theorem dX12_clause_58 : decode cX12_clause 58 = .ok (.goto 8, 3) := by decide +kernel
theorem dX12_clause_61 : decode cX12_clause 61 = .ok (.aload_n 0, 1) := by decide +kernel
theorem dX12_clause_62 : decode cX12_clause 62 = .ok (.iconst 5, 1) := by decide +kernel
theorem dX12_clause_63 : decode cX12_clause 63 = .ok (.invokevirtual 333, 3) := by decide +kernel
theorem dX12_clause_66 : decode cX12_clause 66 = .ok (.ireturn, 1) := by decide +kernel
def F_X12_clause (w : Nat) (M : z_Mem) (a1 : Int32) (a2 : Int32) : Option (Int32 × z_Mem) :=
  (F_X12_isIn w (z_wI (z_wI M 137 1 (0 : Int32)) 137 0 (0 : Int32)) a1.toInt64 (0 : Int64) (((M.1 142 3) - (1 : Int32)).toInt64)).bind fun q1 =>
  if q1.1 = true then
  (F_X12_isIn w q1.2 a2.toInt64 (0 : Int64) (1 : Int64)).bind fun q4 =>
  if q4.1 = true then
  if (((75 : Int32) + ((8 : Int32) * a2)) + a1) < 0 ∨ 1875 ≤ (((75 : Int32) + ((8 : Int32) * a2)) + a1).toNatClampNeg then none else
  some (q4.2.1 142 (((75 : Int32) + ((8 : Int32) * a2)) + a1).toNatClampNeg, q4.2)
  else
  (F_X12_refuse w q4.2 (5 : Int32)).bind fun q7 =>
  some (q7.1, q7.2)
  else
  (F_X12_refuse w q1.2 (2 : Int32)).bind fun q10 =>
  some (q10.1, q10.2)
set_option maxHeartbeats 4000000 in
theorem A_X12_clause {w : Nat} {M : z_Mem} {a1 : Int32} {a2 : Int32} {r : Int32} {M' : z_Mem} {Q : Option Value → z_Mem → Prop} (h : F_X12_clause w M a1 a2 = some (r, M')) (hq : Q (some (.int r)) M') : z_Cl 1 mX12_clause [.ref 139, .int a1, .int a2] M Q := by
  refine g_in (ls := [some (.ref 139), some (.int a1), some (.int a2)]) rfl ?_
  unfold F_X12_clause at h
  refine g_aload_n dX12_clause_0 rfl rfl ?_
  refine g_iconst (v := (0 : Int32)) dX12_clause_1 (by decide) ?_
  refine g_putI (a := 137) dX12_clause_2 f_12_57 sh_137 rfl rfl rfl ?_
  refine g_aload_n dX12_clause_5 rfl rfl ?_
  refine g_iconst (v := (0 : Int32)) dX12_clause_6 (by decide) ?_
  refine g_putI (a := 137) dX12_clause_7 f_12_60 sh_137 rfl rfl rfl ?_
  refine g_iload_n dX12_clause_10 rfl rfl ?_
  refine g_i2l dX12_clause_11 ?_
  refine g_lconst (v := (0 : Int64)) dX12_clause_12 (by decide) ?_
  refine g_aload_n dX12_clause_13 rfl rfl ?_
  refine g_get (a := 137) (v := .ref 144) dX12_clause_14 f_12_35 sh_137 rfl rfl ?_
  refine g_iconst (v := (3 : Int32)) dX12_clause_17 (by decide) ?_
  refine g_ialN (a := 142) (j := 3) (v := M.1 142 3) dX12_clause_18 sh_142 rfl (by decide) (by simp [z_wI, z_wL, z_wLs, upd, vp_updL]) ?_
  refine g_iconst (v := (1 : Int32)) dX12_clause_19 (by decide) ?_
  refine g_isub dX12_clause_20 ?_
  refine g_i2l dX12_clause_21 ?_
  obtain ⟨q1, e2, h⟩ := z_bd h
  refine g_callS (as := [.long a1.toInt64, .long (0 : Int64), .long (((M.1 142 3) - (1 : Int32)).toInt64)]) (rest := []) (c := mX12_isIn) (k1 := 0) dX12_clause_22 rfl rfl rfl rfl rfl (Nat.le_of_ble_eq_true rfl) (Nat.le_of_ble_eq_true rfl) (by decide) ?_
  refine A_X12_isIn e2 ?_
  show z_G none 1 mX12_clause 25 [some (.ref 139), some (.int a1), some (.int a2)] [.int (z_tb q1.1)] q1.2 Q
  refine g_if_ne (t := 34) dX12_clause_25 (by decide) (fun c3 => ?_) (fun c3 => ?_)
  · replace h := z_ift (z_tbn.mp c3) h
    refine g_iload_n dX12_clause_34 rfl rfl ?_
    refine g_i2l dX12_clause_35 ?_
    refine g_lconst (v := (0 : Int64)) dX12_clause_36 (by decide) ?_
    refine g_lconst (v := (1 : Int64)) dX12_clause_37 (by decide) ?_
    obtain ⟨q4, e5, h⟩ := z_bd h
    refine g_callS (as := [.long a2.toInt64, .long (0 : Int64), .long (1 : Int64)]) (rest := []) (c := mX12_isIn) (k1 := 0) dX12_clause_38 rfl rfl rfl rfl rfl (Nat.le_of_ble_eq_true rfl) (Nat.le_of_ble_eq_true rfl) (by decide) ?_
    refine A_X12_isIn e5 ?_
    show z_G none 1 mX12_clause 41 [some (.ref 139), some (.int a1), some (.int a2)] [.int (z_tb q4.1)] q4.2 Q
    refine g_if_eq (t := 61) dX12_clause_41 (by decide) (fun c6 => ?_) (fun c6 => ?_)
    · replace h := z_iff (z_tb0.mp c6) h
      refine g_aload_n dX12_clause_61 rfl rfl ?_
      refine g_iconst (v := (5 : Int32)) dX12_clause_62 (by decide) ?_
      obtain ⟨q7, e8, h⟩ := z_bd h
      refine g_callV (a := 137) (as := [.int (5 : Int32)]) (rest := []) (c := mX12_refuse) (k1 := 0) dX12_clause_63 rfl rfl rfl sh_137 rfl rfl (Nat.le_of_ble_eq_true rfl) (Nat.le_of_ble_eq_true rfl) (by decide) ?_
      refine A_X12_refuse e8 ?_
      show z_G none 1 mX12_clause 66 [some (.ref 139), some (.int a1), some (.int a2)] [.int q7.1] q7.2 Q
      cases h
      exact g_iret dX12_clause_66 rfl rfl hq
    · replace h := z_ift (z_tbn.mp c6) h
      refine g_aload_n dX12_clause_44 rfl rfl ?_
      refine g_get (a := 137) (v := .ref 144) dX12_clause_45 f_12_35 sh_137 rfl rfl ?_
      refine g_bipush (v := (75 : Int32)) dX12_clause_48 (by decide) ?_
      refine g_bipush (v := (8 : Int32)) dX12_clause_50 (by decide) ?_
      refine g_iload_n dX12_clause_52 rfl rfl ?_
      refine g_imul dX12_clause_53 ?_
      refine g_iadd dX12_clause_54 ?_
      refine g_iload_n dX12_clause_55 rfl rfl ?_
      refine g_iadd dX12_clause_56 ?_
      by_cases g9 : (((75 : Int32) + ((8 : Int32) * a2)) + a1) < 0 ∨ 1875 ≤ (((75 : Int32) + ((8 : Int32) * a2)) + a1).toNatClampNeg
      · rw [if_pos g9] at h; cases h
      replace h := z_iff g9 h
      refine g_iald (a := 142) dX12_clause_57 sh_142 g9 ?_
      refine g_goto (t := 66) dX12_clause_58 (by decide) ?_
      cases h
      exact g_iret dX12_clause_66 rfl rfl hq
  · replace h := z_iff (z_tb0.mp c3) h
    refine g_aload_n dX12_clause_28 rfl rfl ?_
    refine g_iconst (v := (2 : Int32)) dX12_clause_29 (by decide) ?_
    obtain ⟨q10, e11, h⟩ := z_bd h
    refine g_callV (a := 137) (as := [.int (2 : Int32)]) (rest := []) (c := mX12_refuse) (k1 := 0) dX12_clause_30 rfl rfl rfl sh_137 rfl rfl (Nat.le_of_ble_eq_true rfl) (Nat.le_of_ble_eq_true rfl) (by decide) ?_
    refine A_X12_refuse e11 ?_
    show z_G none 1 mX12_clause 33 [some (.ref 139), some (.int a1), some (.int a2)] [.int q10.1] q10.2 Q
    cases h
    exact g_iret dX12_clause_33 rfl rfl hq
theorem dX12_witness_0 : decode cX12_witness 0 = .ok (.aload_n 0, 1) := by decide +kernel
theorem dX12_witness_1 : decode cX12_witness 1 = .ok (.iconst 0, 1) := by decide +kernel
theorem dX12_witness_2 : decode cX12_witness 2 = .ok (.putfield 57, 3) := by decide +kernel
theorem dX12_witness_5 : decode cX12_witness 5 = .ok (.aload_n 0, 1) := by decide +kernel
theorem dX12_witness_6 : decode cX12_witness 6 = .ok (.iconst 0, 1) := by decide +kernel
theorem dX12_witness_7 : decode cX12_witness 7 = .ok (.putfield 60, 3) := by decide +kernel
theorem dX12_witness_10 : decode cX12_witness 10 = .ok (.iload_n 1, 1) := by decide +kernel
theorem dX12_witness_11 : decode cX12_witness 11 = .ok (.i2l, 1) := by decide +kernel
theorem dX12_witness_12 : decode cX12_witness 12 = .ok (.lconst 0, 1) := by decide +kernel
theorem dX12_witness_13 : decode cX12_witness 13 = .ok (.aload_n 0, 1) := by decide +kernel
theorem dX12_witness_14 : decode cX12_witness 14 = .ok (.getfield 35, 3) := by decide +kernel
theorem dX12_witness_17 : decode cX12_witness 17 = .ok (.iconst 4, 1) := by decide +kernel
theorem dX12_witness_18 : decode cX12_witness 18 = .ok (.iaload, 1) := by decide +kernel
theorem dX12_witness_19 : decode cX12_witness 19 = .ok (.iconst 1, 1) := by decide +kernel
theorem dX12_witness_20 : decode cX12_witness 20 = .ok (.isub, 1) := by decide +kernel
theorem dX12_witness_21 : decode cX12_witness 21 = .ok (.i2l, 1) := by decide +kernel
theorem dX12_witness_22 : decode cX12_witness 22 = .ok (.invokestatic 92, 3) := by decide +kernel
theorem dX12_witness_25 : decode cX12_witness 25 = .ok (.ifCond .eq 27, 3) := by decide +kernel
theorem dX12_witness_28 : decode cX12_witness 28 = .ok (.iload_n 2, 1) := by decide +kernel
theorem dX12_witness_29 : decode cX12_witness 29 = .ok (.invokestatic 336, 3) := by decide +kernel
theorem dX12_witness_32 : decode cX12_witness 32 = .ok (.ifCond .eq 20, 3) := by decide +kernel
theorem dX12_witness_35 : decode cX12_witness 35 = .ok (.aload_n 0, 1) := by decide +kernel
theorem dX12_witness_36 : decode cX12_witness 36 = .ok (.getfield 35, 3) := by decide +kernel
theorem dX12_witness_39 : decode cX12_witness 39 = .ok (.bipush 91, 2) := by decide +kernel
theorem dX12_witness_41 : decode cX12_witness 41 = .ok (.bipush 6, 2) := by decide +kernel
theorem dX12_witness_43 : decode cX12_witness 43 = .ok (.iload_n 2, 1) := by decide +kernel
theorem dX12_witness_44 : decode cX12_witness 44 = .ok (.imul, 1) := by decide +kernel
theorem dX12_witness_45 : decode cX12_witness 45 = .ok (.iadd, 1) := by decide +kernel
theorem dX12_witness_46 : decode cX12_witness 46 = .ok (.iload_n 1, 1) := by decide +kernel
theorem dX12_witness_47 : decode cX12_witness 47 = .ok (.iadd, 1) := by decide +kernel
theorem dX12_witness_48 : decode cX12_witness 48 = .ok (.iaload, 1) := by decide +kernel
theorem dX12_witness_49 : decode cX12_witness 49 = .ok (.goto 8, 3) := by decide +kernel
theorem dX12_witness_52 : decode cX12_witness 52 = .ok (.aload_n 0, 1) := by decide +kernel
theorem dX12_witness_53 : decode cX12_witness 53 = .ok (.iconst 2, 1) := by decide +kernel
theorem dX12_witness_54 : decode cX12_witness 54 = .ok (.invokevirtual 333, 3) := by decide +kernel
theorem dX12_witness_57 : decode cX12_witness 57 = .ok (.ireturn, 1) := by decide +kernel
def F_X12_witness (w : Nat) (M : z_Mem) (a1 : Int32) (a2 : Int32) : Option (Int32 × z_Mem) :=
  (F_X12_isIn w (z_wI (z_wI M 137 1 (0 : Int32)) 137 0 (0 : Int32)) a1.toInt64 (0 : Int64) (((M.1 142 4) - (1 : Int32)).toInt64)).bind fun q1 =>
  if q1.1 = true then
  (F_X12_isSideAt w q1.2 a2).bind fun q6 =>
  if q6.1 = true then
  if (((91 : Int32) + ((6 : Int32) * a2)) + a1) < 0 ∨ 1875 ≤ (((91 : Int32) + ((6 : Int32) * a2)) + a1).toNatClampNeg then none else
  some (q6.2.1 142 (((91 : Int32) + ((6 : Int32) * a2)) + a1).toNatClampNeg, q6.2)
  else
  (F_X12_refuse w q6.2 (2 : Int32)).bind fun q9 =>
  some (q9.1, q9.2)
  else
  (F_X12_refuse w q1.2 (2 : Int32)).bind fun q4 =>
  some (q4.1, q4.2)
set_option maxHeartbeats 4000000 in
theorem A_X12_witness {w : Nat} {M : z_Mem} {a1 : Int32} {a2 : Int32} {r : Int32} {M' : z_Mem} {Q : Option Value → z_Mem → Prop} (h : F_X12_witness w M a1 a2 = some (r, M')) (hq : Q (some (.int r)) M') : z_Cl 1 mX12_witness [.ref 139, .int a1, .int a2] M Q := by
  refine g_in (ls := [some (.ref 139), some (.int a1), some (.int a2)]) rfl ?_
  unfold F_X12_witness at h
  refine g_aload_n dX12_witness_0 rfl rfl ?_
  refine g_iconst (v := (0 : Int32)) dX12_witness_1 (by decide) ?_
  refine g_putI (a := 137) dX12_witness_2 f_12_57 sh_137 rfl rfl rfl ?_
  refine g_aload_n dX12_witness_5 rfl rfl ?_
  refine g_iconst (v := (0 : Int32)) dX12_witness_6 (by decide) ?_
  refine g_putI (a := 137) dX12_witness_7 f_12_60 sh_137 rfl rfl rfl ?_
  refine g_iload_n dX12_witness_10 rfl rfl ?_
  refine g_i2l dX12_witness_11 ?_
  refine g_lconst (v := (0 : Int64)) dX12_witness_12 (by decide) ?_
  refine g_aload_n dX12_witness_13 rfl rfl ?_
  refine g_get (a := 137) (v := .ref 144) dX12_witness_14 f_12_35 sh_137 rfl rfl ?_
  refine g_iconst (v := (4 : Int32)) dX12_witness_17 (by decide) ?_
  refine g_ialN (a := 142) (j := 4) (v := M.1 142 4) dX12_witness_18 sh_142 rfl (by decide) (by simp [z_wI, z_wL, z_wLs, upd, vp_updL]) ?_
  refine g_iconst (v := (1 : Int32)) dX12_witness_19 (by decide) ?_
  refine g_isub dX12_witness_20 ?_
  refine g_i2l dX12_witness_21 ?_
  obtain ⟨q1, e2, h⟩ := z_bd h
  refine g_callS (as := [.long a1.toInt64, .long (0 : Int64), .long (((M.1 142 4) - (1 : Int32)).toInt64)]) (rest := []) (c := mX12_isIn) (k1 := 0) dX12_witness_22 rfl rfl rfl rfl rfl (Nat.le_of_ble_eq_true rfl) (Nat.le_of_ble_eq_true rfl) (by decide) ?_
  refine A_X12_isIn e2 ?_
  show z_G none 1 mX12_witness 25 [some (.ref 139), some (.int a1), some (.int a2)] [.int (z_tb q1.1)] q1.2 Q
  refine g_if_eq (t := 52) dX12_witness_25 (by decide) (fun c3 => ?_) (fun c3 => ?_)
  · replace h := z_iff (z_tb0.mp c3) h
    refine g_aload_n dX12_witness_52 rfl rfl ?_
    refine g_iconst (v := (2 : Int32)) dX12_witness_53 (by decide) ?_
    obtain ⟨q4, e5, h⟩ := z_bd h
    refine g_callV (a := 137) (as := [.int (2 : Int32)]) (rest := []) (c := mX12_refuse) (k1 := 0) dX12_witness_54 rfl rfl rfl sh_137 rfl rfl (Nat.le_of_ble_eq_true rfl) (Nat.le_of_ble_eq_true rfl) (by decide) ?_
    refine A_X12_refuse e5 ?_
    show z_G none 1 mX12_witness 57 [some (.ref 139), some (.int a1), some (.int a2)] [.int q4.1] q4.2 Q
    cases h
    exact g_iret dX12_witness_57 rfl rfl hq
  · replace h := z_ift (z_tbn.mp c3) h
    refine g_iload_n dX12_witness_28 rfl rfl ?_
    obtain ⟨q6, e7, h⟩ := z_bd h
    refine g_callS (as := [.int a2]) (rest := []) (c := mX12_isSideAt) (k1 := 0) dX12_witness_29 rfl rfl rfl rfl rfl (Nat.le_of_ble_eq_true rfl) (Nat.le_of_ble_eq_true rfl) (by decide) ?_
    refine A_X12_isSideAt e7 ?_
    show z_G none 1 mX12_witness 32 [some (.ref 139), some (.int a1), some (.int a2)] [.int (z_tb q6.1)] q6.2 Q
    refine g_if_eq (t := 52) dX12_witness_32 (by decide) (fun c8 => ?_) (fun c8 => ?_)
    · replace h := z_iff (z_tb0.mp c8) h
      refine g_aload_n dX12_witness_52 rfl rfl ?_
      refine g_iconst (v := (2 : Int32)) dX12_witness_53 (by decide) ?_
      obtain ⟨q9, e10, h⟩ := z_bd h
      refine g_callV (a := 137) (as := [.int (2 : Int32)]) (rest := []) (c := mX12_refuse) (k1 := 0) dX12_witness_54 rfl rfl rfl sh_137 rfl rfl (Nat.le_of_ble_eq_true rfl) (Nat.le_of_ble_eq_true rfl) (by decide) ?_
      refine A_X12_refuse e10 ?_
      show z_G none 1 mX12_witness 57 [some (.ref 139), some (.int a1), some (.int a2)] [.int q9.1] q9.2 Q
      cases h
      exact g_iret dX12_witness_57 rfl rfl hq
    · replace h := z_ift (z_tbn.mp c8) h
      refine g_aload_n dX12_witness_35 rfl rfl ?_
      refine g_get (a := 137) (v := .ref 144) dX12_witness_36 f_12_35 sh_137 rfl rfl ?_
      refine g_bipush (v := (91 : Int32)) dX12_witness_39 (by decide) ?_
      refine g_bipush (v := (6 : Int32)) dX12_witness_41 (by decide) ?_
      refine g_iload_n dX12_witness_43 rfl rfl ?_
      refine g_imul dX12_witness_44 ?_
      refine g_iadd dX12_witness_45 ?_
      refine g_iload_n dX12_witness_46 rfl rfl ?_
      refine g_iadd dX12_witness_47 ?_
      by_cases g11 : (((91 : Int32) + ((6 : Int32) * a2)) + a1) < 0 ∨ 1875 ≤ (((91 : Int32) + ((6 : Int32) * a2)) + a1).toNatClampNeg
      · rw [if_pos g11] at h; cases h
      replace h := z_iff g11 h
      refine g_iald (a := 142) dX12_witness_48 sh_142 g11 ?_
      refine g_goto (t := 57) dX12_witness_49 (by decide) ?_
      cases h
      exact g_iret dX12_witness_57 rfl rfl hq
theorem dX12_copyWorth_0 : decode cX12_copyWorth 0 = .ok (.aload_n 0, 1) := by decide +kernel
theorem dX12_copyWorth_1 : decode cX12_copyWorth 1 = .ok (.iconst 0, 1) := by decide +kernel
theorem dX12_copyWorth_2 : decode cX12_copyWorth 2 = .ok (.putfield 57, 3) := by decide +kernel
theorem dX12_copyWorth_5 : decode cX12_copyWorth 5 = .ok (.aload_n 0, 1) := by decide +kernel
theorem dX12_copyWorth_6 : decode cX12_copyWorth 6 = .ok (.iconst 0, 1) := by decide +kernel
theorem dX12_copyWorth_7 : decode cX12_copyWorth 7 = .ok (.putfield 60, 3) := by decide +kernel
theorem dX12_copyWorth_10 : decode cX12_copyWorth 10 = .ok (.aload_n 0, 1) := by decide +kernel
theorem dX12_copyWorth_11 : decode cX12_copyWorth 11 = .ok (.iload_n 1, 1) := by decide +kernel
theorem dX12_copyWorth_12 : decode cX12_copyWorth 12 = .ok (.invokevirtual 357, 3) := by decide +kernel
theorem dX12_copyWorth_15 : decode cX12_copyWorth 15 = .ok (.ifCond .ne 9, 3) := by decide +kernel
theorem dX12_copyWorth_18 : decode cX12_copyWorth 18 = .ok (.aload_n 0, 1) := by decide +kernel
theorem dX12_copyWorth_19 : decode cX12_copyWorth 19 = .ok (.iconst 1, 1) := by decide +kernel
theorem dX12_copyWorth_20 : decode cX12_copyWorth 20 = .ok (.invokevirtual 333, 3) := by decide +kernel
theorem dX12_copyWorth_23 : decode cX12_copyWorth 23 = .ok (.ireturn, 1) := by decide +kernel
theorem dX12_copyWorth_24 : decode cX12_copyWorth 24 = .ok (.aload_n 0, 1) := by decide +kernel
theorem dX12_copyWorth_25 : decode cX12_copyWorth 25 = .ok (.getfield 17, 3) := by decide +kernel
theorem dX12_copyWorth_28 : decode cX12_copyWorth 28 = .ok (.iload_n 1, 1) := by decide +kernel
theorem dX12_copyWorth_29 : decode cX12_copyWorth 29 = .ok (.iaload, 1) := by decide +kernel
theorem dX12_copyWorth_30 : decode cX12_copyWorth 30 = .ok (.ifCond .ge 9, 3) := by decide +kernel
theorem dX12_copyWorth_33 : decode cX12_copyWorth 33 = .ok (.aload_n 0, 1) := by decide +kernel
theorem dX12_copyWorth_34 : decode cX12_copyWorth 34 = .ok (.iconst 3, 1) := by decide +kernel
theorem dX12_copyWorth_35 : decode cX12_copyWorth 35 = .ok (.invokevirtual 333, 3) := by decide +kernel
theorem dX12_copyWorth_38 : decode cX12_copyWorth 38 = .ok (.ireturn, 1) := by decide +kernel
theorem dX12_copyWorth_39 : decode cX12_copyWorth 39 = .ok (.aload_n 0, 1) := by decide +kernel
theorem dX12_copyWorth_40 : decode cX12_copyWorth 40 = .ok (.getfield 17, 3) := by decide +kernel
theorem dX12_copyWorth_43 : decode cX12_copyWorth 43 = .ok (.iload_n 1, 1) := by decide +kernel
theorem dX12_copyWorth_44 : decode cX12_copyWorth 44 = .ok (.iaload, 1) := by decide +kernel
theorem dX12_copyWorth_45 : decode cX12_copyWorth 45 = .ok (.aload_n 0, 1) := by decide +kernel
theorem dX12_copyWorth_46 : decode cX12_copyWorth 46 = .ok (.getfield 35, 3) := by decide +kernel
theorem dX12_copyWorth_49 : decode cX12_copyWorth 49 = .ok (.iconst 0, 1) := by decide +kernel
theorem dX12_copyWorth_50 : decode cX12_copyWorth 50 = .ok (.iaload, 1) := by decide +kernel
theorem dX12_copyWorth_51 : decode cX12_copyWorth 51 = .ok (.if_icmp .ge 9, 3) := by decide +kernel
theorem dX12_copyWorth_54 : decode cX12_copyWorth 54 = .ok (.aload_n 0, 1) := by decide +kernel
theorem dX12_copyWorth_55 : decode cX12_copyWorth 55 = .ok (.iconst 4, 1) := by decide +kernel
theorem dX12_copyWorth_56 : decode cX12_copyWorth 56 = .ok (.invokevirtual 333, 3) := by decide +kernel
theorem dX12_copyWorth_59 : decode cX12_copyWorth 59 = .ok (.ireturn, 1) := by decide +kernel
theorem dX12_copyWorth_60 : decode cX12_copyWorth 60 = .ok (.iconst 0, 1) := by decide +kernel
theorem dX12_copyWorth_61 : decode cX12_copyWorth 61 = .ok (.istore_n 2, 1) := by decide +kernel
theorem dX12_copyWorth_62 : decode cX12_copyWorth 62 = .ok (.iload_n 2, 1) := by decide +kernel
theorem dX12_copyWorth_63 : decode cX12_copyWorth 63 = .ok (.aload_n 0, 1) := by decide +kernel
theorem dX12_copyWorth_64 : decode cX12_copyWorth 64 = .ok (.getfield 35, 3) := by decide +kernel
theorem dX12_copyWorth_67 : decode cX12_copyWorth 67 = .ok (.iconst 0, 1) := by decide +kernel
theorem dX12_copyWorth_68 : decode cX12_copyWorth 68 = .ok (.iaload, 1) := by decide +kernel
theorem dX12_copyWorth_69 : decode cX12_copyWorth 69 = .ok (.if_icmp .ge 26, 3) := by decide +kernel
theorem dX12_copyWorth_72 : decode cX12_copyWorth 72 = .ok (.aload_n 0, 1) := by decide +kernel
theorem dX12_copyWorth_73 : decode cX12_copyWorth 73 = .ok (.iload_n 1, 1) := by decide +kernel
theorem dX12_copyWorth_74 : decode cX12_copyWorth 74 = .ok (.iload_n 2, 1) := by decide +kernel
theorem dX12_copyWorth_75 : decode cX12_copyWorth 75 = .ok (.aload_n 0, 1) := by decide +kernel
theorem dX12_copyWorth_76 : decode cX12_copyWorth 76 = .ok (.getfield 35, 3) := by decide +kernel
theorem dX12_copyWorth_79 : decode cX12_copyWorth 79 = .ok (.bipush 44, 2) := by decide +kernel
theorem dX12_copyWorth_81 : decode cX12_copyWorth 81 = .ok (.iload_n 2, 1) := by decide +kernel
theorem dX12_copyWorth_82 : decode cX12_copyWorth 82 = .ok (.iadd, 1) := by decide +kernel
theorem dX12_copyWorth_83 : decode cX12_copyWorth 83 = .ok (.iaload, 1) := by decide +kernel
theorem dX12_copyWorth_84 : decode cX12_copyWorth 84 = .ok (.i2l, 1) := by decide +kernel
theorem dX12_copyWorth_85 : decode cX12_copyWorth 85 = .ok (.invokevirtual 360, 3) := by decide +kernel
theorem dX12_copyWorth_88 : decode cX12_copyWorth 88 = .ok (.pop, 1) := by decide +kernel
theorem dX12_copyWorth_89 : decode cX12_copyWorth 89 = .ok (.iinc 2 1, 3) := by decide +kernel
theorem dX12_copyWorth_92 : decode cX12_copyWorth 92 = .ok (.goto (-30), 3) := by decide +kernel
theorem dX12_copyWorth_95 : decode cX12_copyWorth 95 = .ok (.aload_n 0, 1) := by decide +kernel
theorem dX12_copyWorth_96 : decode cX12_copyWorth 96 = .ok (.getfield 35, 3) := by decide +kernel
theorem dX12_copyWorth_99 : decode cX12_copyWorth 99 = .ok (.iconst 0, 1) := by decide +kernel
theorem dX12_copyWorth_100 : decode cX12_copyWorth 100 = .ok (.iaload, 1) := by decide +kernel
theorem dX12_copyWorth_101 : decode cX12_copyWorth 101 = .ok (.ireturn, 1) := by decide +kernel
def L_X12_copyWorth (w : Nat) : Nat → z_Mem → Int32 → Int32 → Option (Int32 × z_Mem)
  | 0, _, _, _ => none
  | c + 1, M, x1, x2 =>
    if (M.1 142 0) ≤ x2 then
    some (M.1 142 0, M)
    else
    if ((44 : Int32) + x2) < 0 ∨ 1875 ≤ ((44 : Int32) + x2).toNatClampNeg then none else
    (F_X12_write w M x1 x2 ((M.1 142 ((44 : Int32) + x2).toNatClampNeg).toInt64)).bind fun q3 =>
    L_X12_copyWorth w c q3.2 x1 (x2 + (1 : Int32))
set_option maxHeartbeats 4000000 in
theorem AL_X12_copyWorth {w : Nat} : ∀ (c : Nat), (∀ (M : z_Mem) (x1 : Int32) (x2 : Int32) (r : Int32) (M' : z_Mem) (Q : Option Value → z_Mem → Prop), L_X12_copyWorth w c M x1 x2 = some (r, M') → Q (some (.int r)) M' → z_G none 3 mX12_copyWorth 62 [some (.ref 139), some (.int x1), some (.int x2)] [] M Q) := by
  intro c
  induction c with
  | zero => exact (fun M x1 x2 r M' Q h hq => by rw [L_X12_copyWorth] at h; cases h)
  | succ c ih =>
    intro M x1 x2 r M' Q h hq
    rw [L_X12_copyWorth] at h
    refine g_iload_n dX12_copyWorth_62 rfl rfl ?_
    refine g_aload_n dX12_copyWorth_63 rfl rfl ?_
    refine g_get (a := 137) (v := .ref 144) dX12_copyWorth_64 f_12_35 sh_137 rfl rfl ?_
    refine g_iconst (v := (0 : Int32)) dX12_copyWorth_67 (by decide) ?_
    refine g_ialN (a := 142) (j := 0) (v := M.1 142 0) dX12_copyWorth_68 sh_142 rfl (by decide) rfl ?_
    refine g_ic_ge (t := 95) dX12_copyWorth_69 (by decide) (fun c1 => ?_) (fun c1 => ?_)
    · replace h := z_ift c1 h
      refine g_aload_n dX12_copyWorth_95 rfl rfl ?_
      refine g_get (a := 137) (v := .ref 144) dX12_copyWorth_96 f_12_35 sh_137 rfl rfl ?_
      refine g_iconst (v := (0 : Int32)) dX12_copyWorth_99 (by decide) ?_
      refine g_ialN (a := 142) (j := 0) (v := M.1 142 0) dX12_copyWorth_100 sh_142 rfl (by decide) rfl ?_
      cases h
      exact g_iret dX12_copyWorth_101 rfl rfl hq
    · replace h := z_iff c1 h
      refine g_aload_n dX12_copyWorth_72 rfl rfl ?_
      refine g_iload_n dX12_copyWorth_73 rfl rfl ?_
      refine g_iload_n dX12_copyWorth_74 rfl rfl ?_
      refine g_aload_n dX12_copyWorth_75 rfl rfl ?_
      refine g_get (a := 137) (v := .ref 144) dX12_copyWorth_76 f_12_35 sh_137 rfl rfl ?_
      refine g_bipush (v := (44 : Int32)) dX12_copyWorth_79 (by decide) ?_
      refine g_iload_n dX12_copyWorth_81 rfl rfl ?_
      refine g_iadd dX12_copyWorth_82 ?_
      by_cases g2 : ((44 : Int32) + x2) < 0 ∨ 1875 ≤ ((44 : Int32) + x2).toNatClampNeg
      · rw [if_pos g2] at h; cases h
      replace h := z_iff g2 h
      refine g_iald (a := 142) dX12_copyWorth_83 sh_142 g2 ?_
      refine g_i2l dX12_copyWorth_84 ?_
      obtain ⟨q3, e4, h⟩ := z_bd h
      refine g_callV (a := 137) (as := [.int x1, .int x2, .long ((M.1 142 ((44 : Int32) + x2).toNatClampNeg).toInt64)]) (rest := []) (c := mX12_write) (k1 := 2) dX12_copyWorth_85 rfl rfl rfl sh_137 rfl rfl (Nat.le_of_ble_eq_true rfl) (Nat.le_of_ble_eq_true rfl) (by decide) ?_
      refine A_X12_write e4 ?_
      show z_G none 3 mX12_copyWorth 88 [some (.ref 139), some (.int x1), some (.int x2)] [.int (z_tb q3.1)] q3.2 Q
      refine g_pop dX12_copyWorth_88 rfl ?_
      refine g_iinc (v := x2 + (1 : Int32)) (ls' := [some (.ref 139), some (.int x1), some (.int (x2 + (1 : Int32)))]) dX12_copyWorth_89 rfl rfl rfl ?_
      refine g_goto (t := 62) dX12_copyWorth_92 (by decide) ?_
      exact g_sub (z_sub_s (z_sub_s (z_sub_s z_sub_nil))) (ih _ _ _ _ _ _ h hq)
def F_X12_copyWorth (w : Nat) (M : z_Mem) (a1 : Int32) : Option (Int32 × z_Mem) :=
  (F_X12_isTray w (z_wI (z_wI M 137 1 (0 : Int32)) 137 0 (0 : Int32)) a1).bind fun q5 =>
  if q5.1 = true then
  if a1 < 0 ∨ 4 ≤ a1.toNatClampNeg then none else
  if (0 : Int32) ≤ (q5.2.1 139 a1.toNatClampNeg) then
  if a1 < 0 ∨ 4 ≤ a1.toNatClampNeg then none else
  if (q5.2.1 142 0) ≤ (q5.2.1 139 a1.toNatClampNeg) then
  L_X12_copyWorth w w q5.2 a1 (0 : Int32)
  else
  (F_X12_refuse w q5.2 (4 : Int32)).bind fun q12 =>
  some (q12.1, q12.2)
  else
  (F_X12_refuse w q5.2 (3 : Int32)).bind fun q14 =>
  some (q14.1, q14.2)
  else
  (F_X12_refuse w q5.2 (1 : Int32)).bind fun q16 =>
  some (q16.1, q16.2)
set_option maxHeartbeats 4000000 in
theorem A_X12_copyWorth {w : Nat} {M : z_Mem} {a1 : Int32} {r : Int32} {M' : z_Mem} {Q : Option Value → z_Mem → Prop} (h : F_X12_copyWorth w M a1 = some (r, M')) (hq : Q (some (.int r)) M') : z_Cl 3 mX12_copyWorth [.ref 139, .int a1] M Q := by
  refine g_in (ls := [some (.ref 139), some (.int a1), none]) rfl ?_
  unfold F_X12_copyWorth at h
  refine g_aload_n dX12_copyWorth_0 rfl rfl ?_
  refine g_iconst (v := (0 : Int32)) dX12_copyWorth_1 (by decide) ?_
  refine g_putI (a := 137) dX12_copyWorth_2 f_12_57 sh_137 rfl rfl rfl ?_
  refine g_aload_n dX12_copyWorth_5 rfl rfl ?_
  refine g_iconst (v := (0 : Int32)) dX12_copyWorth_6 (by decide) ?_
  refine g_putI (a := 137) dX12_copyWorth_7 f_12_60 sh_137 rfl rfl rfl ?_
  refine g_aload_n dX12_copyWorth_10 rfl rfl ?_
  refine g_iload_n dX12_copyWorth_11 rfl rfl ?_
  obtain ⟨q5, e6, h⟩ := z_bd h
  refine g_callV (a := 137) (as := [.int a1]) (rest := []) (c := mX12_isTray) (k1 := 1) dX12_copyWorth_12 rfl rfl rfl sh_137 rfl rfl (Nat.le_of_ble_eq_true rfl) (Nat.le_of_ble_eq_true rfl) (by decide) ?_
  refine A_X12_isTray e6 ?_
  show z_G none 3 mX12_copyWorth 15 [some (.ref 139), some (.int a1), none] [.int (z_tb q5.1)] q5.2 Q
  refine g_if_ne (t := 24) dX12_copyWorth_15 (by decide) (fun c7 => ?_) (fun c7 => ?_)
  · replace h := z_ift (z_tbn.mp c7) h
    refine g_aload_n dX12_copyWorth_24 rfl rfl ?_
    refine g_get (a := 137) (v := .ref 141) dX12_copyWorth_25 f_12_17 sh_137 rfl rfl ?_
    refine g_iload_n dX12_copyWorth_28 rfl rfl ?_
    by_cases g8 : a1 < 0 ∨ 4 ≤ a1.toNatClampNeg
    · rw [if_pos g8] at h; cases h
    replace h := z_iff g8 h
    refine g_iald (a := 139) dX12_copyWorth_29 sh_139 g8 ?_
    refine g_if_ge (t := 39) dX12_copyWorth_30 (by decide) (fun c9 => ?_) (fun c9 => ?_)
    · replace h := z_ift c9 h
      refine g_aload_n dX12_copyWorth_39 rfl rfl ?_
      refine g_get (a := 137) (v := .ref 141) dX12_copyWorth_40 f_12_17 sh_137 rfl rfl ?_
      refine g_iload_n dX12_copyWorth_43 rfl rfl ?_
      by_cases g10 : a1 < 0 ∨ 4 ≤ a1.toNatClampNeg
      · rw [if_pos g10] at h; cases h
      replace h := z_iff g10 h
      refine g_iald (a := 139) dX12_copyWorth_44 sh_139 g10 ?_
      refine g_aload_n dX12_copyWorth_45 rfl rfl ?_
      refine g_get (a := 137) (v := .ref 144) dX12_copyWorth_46 f_12_35 sh_137 rfl rfl ?_
      refine g_iconst (v := (0 : Int32)) dX12_copyWorth_49 (by decide) ?_
      refine g_ialN (a := 142) (j := 0) (v := q5.2.1 142 0) dX12_copyWorth_50 sh_142 rfl (by decide) rfl ?_
      refine g_ic_ge (t := 60) dX12_copyWorth_51 (by decide) (fun c11 => ?_) (fun c11 => ?_)
      · replace h := z_ift c11 h
        refine g_iconst (v := (0 : Int32)) dX12_copyWorth_60 (by decide) ?_
        refine g_istore_n (ls' := [some (.ref 139), some (.int a1), some (.int (0 : Int32))]) dX12_copyWorth_61 rfl (Nat.le_of_ble_eq_true rfl) rfl ?_
        exact g_sub (z_sub_s (z_sub_s (z_sub_s z_sub_nil))) ((AL_X12_copyWorth (w := w) w) _ _ _ _ _ _ h hq)
      · replace h := z_iff c11 h
        refine g_aload_n dX12_copyWorth_54 rfl rfl ?_
        refine g_iconst (v := (4 : Int32)) dX12_copyWorth_55 (by decide) ?_
        obtain ⟨q12, e13, h⟩ := z_bd h
        refine g_callV (a := 137) (as := [.int (4 : Int32)]) (rest := []) (c := mX12_refuse) (k1 := 0) dX12_copyWorth_56 rfl rfl rfl sh_137 rfl rfl (Nat.le_of_ble_eq_true rfl) (Nat.le_of_ble_eq_true rfl) (by decide) ?_
        refine A_X12_refuse e13 ?_
        show z_G none 3 mX12_copyWorth 59 [some (.ref 139), some (.int a1), none] [.int q12.1] q12.2 Q
        cases h
        exact g_iret dX12_copyWorth_59 rfl rfl hq
    · replace h := z_iff c9 h
      refine g_aload_n dX12_copyWorth_33 rfl rfl ?_
      refine g_iconst (v := (3 : Int32)) dX12_copyWorth_34 (by decide) ?_
      obtain ⟨q14, e15, h⟩ := z_bd h
      refine g_callV (a := 137) (as := [.int (3 : Int32)]) (rest := []) (c := mX12_refuse) (k1 := 0) dX12_copyWorth_35 rfl rfl rfl sh_137 rfl rfl (Nat.le_of_ble_eq_true rfl) (Nat.le_of_ble_eq_true rfl) (by decide) ?_
      refine A_X12_refuse e15 ?_
      show z_G none 3 mX12_copyWorth 38 [some (.ref 139), some (.int a1), none] [.int q14.1] q14.2 Q
      cases h
      exact g_iret dX12_copyWorth_38 rfl rfl hq
  · replace h := z_iff (z_tb0.mp c7) h
    refine g_aload_n dX12_copyWorth_18 rfl rfl ?_
    refine g_iconst (v := (1 : Int32)) dX12_copyWorth_19 (by decide) ?_
    obtain ⟨q16, e17, h⟩ := z_bd h
    refine g_callV (a := 137) (as := [.int (1 : Int32)]) (rest := []) (c := mX12_refuse) (k1 := 0) dX12_copyWorth_20 rfl rfl rfl sh_137 rfl rfl (Nat.le_of_ble_eq_true rfl) (Nat.le_of_ble_eq_true rfl) (by decide) ?_
    refine A_X12_refuse e17 ?_
    show z_G none 3 mX12_copyWorth 23 [some (.ref 139), some (.int a1), none] [.int q16.1] q16.2 Q
    cases h
    exact g_iret dX12_copyWorth_23 rfl rfl hq
theorem dX12_isBorne_0 : decode cX12_isBorne 0 = .ok (.aload_n 0, 1) := by decide +kernel
theorem dX12_isBorne_1 : decode cX12_isBorne 1 = .ok (.getfield 35, 3) := by decide +kernel
theorem dX12_isBorne_4 : decode cX12_isBorne 4 = .ok (.bipush 20, 2) := by decide +kernel
theorem dX12_isBorne_6 : decode cX12_isBorne 6 = .ok (.iload_n 1, 1) := by decide +kernel
theorem dX12_isBorne_7 : decode cX12_isBorne 7 = .ok (.iadd, 1) := by decide +kernel
theorem dX12_isBorne_8 : decode cX12_isBorne 8 = .ok (.iaload, 1) := by decide +kernel
theorem dX12_isBorne_9 : decode cX12_isBorne 9 = .ok (.istore_n 2, 1) := by decide +kernel
theorem dX12_isBorne_10 : decode cX12_isBorne 10 = .ok (.aload_n 0, 1) := by decide +kernel
theorem dX12_isBorne_11 : decode cX12_isBorne 11 = .ok (.getfield 35, 3) := by decide +kernel
theorem dX12_isBorne_14 : decode cX12_isBorne 14 = .ok (.bipush 52, 2) := by decide +kernel
theorem dX12_isBorne_16 : decode cX12_isBorne 16 = .ok (.iload_n 1, 1) := by decide +kernel
theorem dX12_isBorne_17 : decode cX12_isBorne 17 = .ok (.iadd, 1) := by decide +kernel
theorem dX12_isBorne_18 : decode cX12_isBorne 18 = .ok (.iaload, 1) := by decide +kernel
theorem dX12_isBorne_19 : decode cX12_isBorne 19 = .ok (.aload_n 0, 1) := by decide +kernel
theorem dX12_isBorne_20 : decode cX12_isBorne 20 = .ok (.getfield 35, 3) := by decide +kernel
theorem dX12_isBorne_23 : decode cX12_isBorne 23 = .ok (.bipush 9, 2) := by decide +kernel
theorem dX12_isBorne_25 : decode cX12_isBorne 25 = .ok (.iaload, 1) := by decide +kernel
theorem dX12_isBorne_26 : decode cX12_isBorne 26 = .ok (.bipush 12, 2) := by decide +kernel
theorem dX12_isBorne_28 : decode cX12_isBorne 28 = .ok (.irem, 1) := by decide +kernel
theorem dX12_isBorne_29 : decode cX12_isBorne 29 = .ok (.invokestatic 96, 3) := by decide +kernel
theorem dX12_isBorne_32 : decode cX12_isBorne 32 = .ok (.ifCond .ne 5, 3) := by decide +kernel
theorem dX12_isBorne_35 : decode cX12_isBorne 35 = .ok (.iconst 0, 1) := by decide +kernel
theorem dX12_isBorne_36 : decode cX12_isBorne 36 = .ok (.ireturn, 1) := by decide +kernel
theorem dX12_isBorne_37 : decode cX12_isBorne 37 = .ok (.aload_n 0, 1) := by decide +kernel
theorem dX12_isBorne_38 : decode cX12_isBorne 38 = .ok (.getfield 35, 3) := by decide +kernel
theorem dX12_isBorne_41 : decode cX12_isBorne 41 = .ok (.bipush 28, 2) := by decide +kernel
theorem dX12_isBorne_43 : decode cX12_isBorne 43 = .ok (.iload_n 1, 1) := by decide +kernel
theorem dX12_isBorne_44 : decode cX12_isBorne 44 = .ok (.iadd, 1) := by decide +kernel
theorem dX12_isBorne_45 : decode cX12_isBorne 45 = .ok (.iaload, 1) := by decide +kernel
theorem dX12_isBorne_46 : decode cX12_isBorne 46 = .ok (.ifCond .ne 20, 3) := by decide +kernel
theorem dX12_isBorne_49 : decode cX12_isBorne 49 = .ok (.aload_n 0, 1) := by decide +kernel
theorem dX12_isBorne_50 : decode cX12_isBorne 50 = .ok (.getfield 35, 3) := by decide +kernel
theorem dX12_isBorne_53 : decode cX12_isBorne 53 = .ok (.bipush 8, 2) := by decide +kernel
theorem dX12_isBorne_55 : decode cX12_isBorne 55 = .ok (.iaload, 1) := by decide +kernel
theorem dX12_isBorne_56 : decode cX12_isBorne 56 = .ok (.iload_n 2, 1) := by decide +kernel
theorem dX12_isBorne_57 : decode cX12_isBorne 57 = .ok (.if_icmp .ne 7, 3) := by decide +kernel
theorem dX12_isBorne_60 : decode cX12_isBorne 60 = .ok (.iconst 1, 1) := by decide +kernel
theorem dX12_isBorne_61 : decode cX12_isBorne 61 = .ok (.goto 4, 3) := by decide +kernel
theorem dX12_isBorne_64 : decode cX12_isBorne 64 = .ok (.iconst 0, 1) := by decide +kernel
theorem dX12_isBorne_65 : decode cX12_isBorne 65 = .ok (.ireturn, 1) := by decide +kernel
theorem dX12_isBorne_66 : decode cX12_isBorne 66 = .ok (.aload_n 0, 1) := by decide +kernel
theorem dX12_isBorne_67 : decode cX12_isBorne 67 = .ok (.getfield 35, 3) := by decide +kernel
theorem dX12_isBorne_70 : decode cX12_isBorne 70 = .ok (.bipush 28, 2) := by decide +kernel
theorem dX12_isBorne_72 : decode cX12_isBorne 72 = .ok (.iload_n 1, 1) := by decide +kernel
theorem dX12_isBorne_73 : decode cX12_isBorne 73 = .ok (.iadd, 1) := by decide +kernel
theorem dX12_isBorne_74 : decode cX12_isBorne 74 = .ok (.iaload, 1) := by decide +kernel
theorem dX12_isBorne_75 : decode cX12_isBorne 75 = .ok (.iconst 1, 1) := by decide +kernel
theorem dX12_isBorne_76 : decode cX12_isBorne 76 = .ok (.if_icmp .ne 22, 3) := by decide +kernel
theorem dX12_isBorne_79 : decode cX12_isBorne 79 = .ok (.aload_n 0, 1) := by decide +kernel
theorem dX12_isBorne_80 : decode cX12_isBorne 80 = .ok (.getfield 35, 3) := by decide +kernel
theorem dX12_isBorne_83 : decode cX12_isBorne 83 = .ok (.bipush 8, 2) := by decide +kernel
theorem dX12_isBorne_85 : decode cX12_isBorne 85 = .ok (.iaload, 1) := by decide +kernel
theorem dX12_isBorne_86 : decode cX12_isBorne 86 = .ok (.iload_n 2, 1) := by decide +kernel
theorem dX12_isBorne_87 : decode cX12_isBorne 87 = .ok (.if_icmp .eq 7, 3) := by decide +kernel
theorem dX12_isBorne_90 : decode cX12_isBorne 90 = .ok (.iconst 1, 1) := by decide +kernel
theorem dX12_isBorne_91 : decode cX12_isBorne 91 = .ok (.goto 29, 3) := by decide +kernel
theorem dX12_isBorne_94 : decode cX12_isBorne 94 = .ok (.iconst 0, 1) := by decide +kernel
theorem dX12_isBorne_95 : decode cX12_isBorne 95 = .ok (.goto 25, 3) := by decide +kernel
theorem dX12_isBorne_98 : decode cX12_isBorne 98 = .ok (.aload_n 0, 1) := by decide +kernel
theorem dX12_isBorne_99 : decode cX12_isBorne 99 = .ok (.aload_n 0, 1) := by decide +kernel
theorem dX12_isBorne_100 : decode cX12_isBorne 100 = .ok (.getfield 35, 3) := by decide +kernel
theorem dX12_isBorne_103 : decode cX12_isBorne 103 = .ok (.bipush 36, 2) := by decide +kernel
theorem dX12_isBorne_105 : decode cX12_isBorne 105 = .ok (.iload_n 1, 1) := by decide +kernel
theorem dX12_isBorne_106 : decode cX12_isBorne 106 = .ok (.iadd, 1) := by decide +kernel
theorem dX12_isBorne_107 : decode cX12_isBorne 107 = .ok (.iaload, 1) := by decide +kernel
theorem dX12_isBorne_108 : decode cX12_isBorne 108 = .ok (.invokevirtual 354, 3) := by decide +kernel
theorem dX12_isBorne_111 : decode cX12_isBorne 111 = .ok (.iload_n 2, 1) := by decide +kernel
theorem dX12_isBorne_112 : decode cX12_isBorne 112 = .ok (.if_icmp .ne 7, 3) := by decide +kernel
theorem dX12_isBorne_115 : decode cX12_isBorne 115 = .ok (.iconst 1, 1) := by decide +kernel
theorem dX12_isBorne_116 : decode cX12_isBorne 116 = .ok (.goto 4, 3) := by decide +kernel
theorem dX12_isBorne_119 : decode cX12_isBorne 119 = .ok (.iconst 0, 1) := by decide +kernel
theorem dX12_isBorne_120 : decode cX12_isBorne 120 = .ok (.ireturn, 1) := by decide +kernel
def F_X12_isBorne (w : Nat) (M : z_Mem) (a1 : Int32) : Option (Bool × z_Mem) :=
  if ((20 : Int32) + a1) < 0 ∨ 1875 ≤ ((20 : Int32) + a1).toNatClampNeg then none else
  if ((52 : Int32) + a1) < 0 ∨ 1875 ≤ ((52 : Int32) + a1).toNatClampNeg then none else
  (F_X12_has w M (M.1 142 ((52 : Int32) + a1).toNatClampNeg) ((M.1 142 9) - (M.1 142 9) / (12 : Int32) * (12 : Int32))).bind fun q3 =>
  if q3.1 = true then
  if ((28 : Int32) + a1) < 0 ∨ 1875 ≤ ((28 : Int32) + a1).toNatClampNeg then none else
  if (q3.2.1 142 ((28 : Int32) + a1).toNatClampNeg) = (0 : Int32) then
  if (q3.2.1 142 8) = (M.1 142 ((20 : Int32) + a1).toNatClampNeg) then
  some (true, q3.2)
  else
  some (false, q3.2)
  else
  if ((28 : Int32) + a1) < 0 ∨ 1875 ≤ ((28 : Int32) + a1).toNatClampNeg then none else
  if (q3.2.1 142 ((28 : Int32) + a1).toNatClampNeg) = (1 : Int32) then
  if (q3.2.1 142 8) = (M.1 142 ((20 : Int32) + a1).toNatClampNeg) then
  some (false, q3.2)
  else
  some (true, q3.2)
  else
  if ((36 : Int32) + a1) < 0 ∨ 1875 ≤ ((36 : Int32) + a1).toNatClampNeg then none else
  (F_X12_layOf w q3.2 (q3.2.1 142 ((36 : Int32) + a1).toNatClampNeg)).bind fun q11 =>
  if q11.1 = (M.1 142 ((20 : Int32) + a1).toNatClampNeg) then
  some (true, q11.2)
  else
  some (false, q11.2)
  else
  some (false, q3.2)
set_option maxHeartbeats 4000000 in
theorem A_X12_isBorne {w : Nat} {M : z_Mem} {a1 : Int32} {r : Bool} {M' : z_Mem} {Q : Option Value → z_Mem → Prop} (h : F_X12_isBorne w M a1 = some (r, M')) (hq : Q (some (.int (z_tb r))) M') : z_Cl 1 mX12_isBorne [.ref 139, .int a1] M Q := by
  refine g_in (ls := [some (.ref 139), some (.int a1), none]) rfl ?_
  unfold F_X12_isBorne at h
  refine g_aload_n dX12_isBorne_0 rfl rfl ?_
  refine g_get (a := 137) (v := .ref 144) dX12_isBorne_1 f_12_35 sh_137 rfl rfl ?_
  refine g_bipush (v := (20 : Int32)) dX12_isBorne_4 (by decide) ?_
  refine g_iload_n dX12_isBorne_6 rfl rfl ?_
  refine g_iadd dX12_isBorne_7 ?_
  by_cases g1 : ((20 : Int32) + a1) < 0 ∨ 1875 ≤ ((20 : Int32) + a1).toNatClampNeg
  · rw [if_pos g1] at h; cases h
  replace h := z_iff g1 h
  refine g_iald (a := 142) dX12_isBorne_8 sh_142 g1 ?_
  refine g_istore_n (ls' := [some (.ref 139), some (.int a1), some (.int (M.1 142 ((20 : Int32) + a1).toNatClampNeg))]) dX12_isBorne_9 rfl (Nat.le_of_ble_eq_true rfl) rfl ?_
  refine g_aload_n dX12_isBorne_10 rfl rfl ?_
  refine g_get (a := 137) (v := .ref 144) dX12_isBorne_11 f_12_35 sh_137 rfl rfl ?_
  refine g_bipush (v := (52 : Int32)) dX12_isBorne_14 (by decide) ?_
  refine g_iload_n dX12_isBorne_16 rfl rfl ?_
  refine g_iadd dX12_isBorne_17 ?_
  by_cases g2 : ((52 : Int32) + a1) < 0 ∨ 1875 ≤ ((52 : Int32) + a1).toNatClampNeg
  · rw [if_pos g2] at h; cases h
  replace h := z_iff g2 h
  refine g_iald (a := 142) dX12_isBorne_18 sh_142 g2 ?_
  refine g_aload_n dX12_isBorne_19 rfl rfl ?_
  refine g_get (a := 137) (v := .ref 144) dX12_isBorne_20 f_12_35 sh_137 rfl rfl ?_
  refine g_bipush (v := (9 : Int32)) dX12_isBorne_23 (by decide) ?_
  refine g_ialN (a := 142) (j := 9) (v := M.1 142 9) dX12_isBorne_25 sh_142 rfl (by decide) rfl ?_
  refine g_bipush (v := (12 : Int32)) dX12_isBorne_26 (by decide) ?_
  refine g_irem dX12_isBorne_28 (by decide) ?_
  obtain ⟨q3, e4, h⟩ := z_bd h
  refine g_callS (as := [.int (M.1 142 ((52 : Int32) + a1).toNatClampNeg), .int ((M.1 142 9) - (M.1 142 9) / (12 : Int32) * (12 : Int32))]) (rest := []) (c := mX12_has) (k1 := 0) dX12_isBorne_29 rfl rfl rfl rfl rfl (Nat.le_of_ble_eq_true rfl) (Nat.le_of_ble_eq_true rfl) (by decide) ?_
  refine A_X12_has e4 ?_
  show z_G none 1 mX12_isBorne 32 [some (.ref 139), some (.int a1), some (.int (M.1 142 ((20 : Int32) + a1).toNatClampNeg))] [.int (z_tb q3.1)] q3.2 Q
  refine g_if_ne (t := 37) dX12_isBorne_32 (by decide) (fun c5 => ?_) (fun c5 => ?_)
  · replace h := z_ift (z_tbn.mp c5) h
    refine g_aload_n dX12_isBorne_37 rfl rfl ?_
    refine g_get (a := 137) (v := .ref 144) dX12_isBorne_38 f_12_35 sh_137 rfl rfl ?_
    refine g_bipush (v := (28 : Int32)) dX12_isBorne_41 (by decide) ?_
    refine g_iload_n dX12_isBorne_43 rfl rfl ?_
    refine g_iadd dX12_isBorne_44 ?_
    by_cases g6 : ((28 : Int32) + a1) < 0 ∨ 1875 ≤ ((28 : Int32) + a1).toNatClampNeg
    · rw [if_pos g6] at h; cases h
    replace h := z_iff g6 h
    refine g_iald (a := 142) dX12_isBorne_45 sh_142 g6 ?_
    refine g_if_ne (t := 66) dX12_isBorne_46 (by decide) (fun c7 => ?_) (fun c7 => ?_)
    · replace h := z_iff c7 h
      refine g_aload_n dX12_isBorne_66 rfl rfl ?_
      refine g_get (a := 137) (v := .ref 144) dX12_isBorne_67 f_12_35 sh_137 rfl rfl ?_
      refine g_bipush (v := (28 : Int32)) dX12_isBorne_70 (by decide) ?_
      refine g_iload_n dX12_isBorne_72 rfl rfl ?_
      refine g_iadd dX12_isBorne_73 ?_
      by_cases g8 : ((28 : Int32) + a1) < 0 ∨ 1875 ≤ ((28 : Int32) + a1).toNatClampNeg
      · rw [if_pos g8] at h; cases h
      replace h := z_iff g8 h
      refine g_iald (a := 142) dX12_isBorne_74 sh_142 g8 ?_
      refine g_iconst (v := (1 : Int32)) dX12_isBorne_75 (by decide) ?_
      refine g_ic_ne (t := 98) dX12_isBorne_76 (by decide) (fun c9 => ?_) (fun c9 => ?_)
      · replace h := z_iff c9 h
        refine g_aload_n dX12_isBorne_98 rfl rfl ?_
        refine g_aload_n dX12_isBorne_99 rfl rfl ?_
        refine g_get (a := 137) (v := .ref 144) dX12_isBorne_100 f_12_35 sh_137 rfl rfl ?_
        refine g_bipush (v := (36 : Int32)) dX12_isBorne_103 (by decide) ?_
        refine g_iload_n dX12_isBorne_105 rfl rfl ?_
        refine g_iadd dX12_isBorne_106 ?_
        by_cases g10 : ((36 : Int32) + a1) < 0 ∨ 1875 ≤ ((36 : Int32) + a1).toNatClampNeg
        · rw [if_pos g10] at h; cases h
        replace h := z_iff g10 h
        refine g_iald (a := 142) dX12_isBorne_107 sh_142 g10 ?_
        obtain ⟨q11, e12, h⟩ := z_bd h
        refine g_callV (a := 137) (as := [.int (q3.2.1 142 ((36 : Int32) + a1).toNatClampNeg)]) (rest := []) (c := mX12_layOf) (k1 := 0) dX12_isBorne_108 rfl rfl rfl sh_137 rfl rfl (Nat.le_of_ble_eq_true rfl) (Nat.le_of_ble_eq_true rfl) (by decide) ?_
        refine A_X12_layOf e12 ?_
        show z_G none 1 mX12_isBorne 111 [some (.ref 139), some (.int a1), some (.int (M.1 142 ((20 : Int32) + a1).toNatClampNeg))] [.int q11.1] q11.2 Q
        refine g_iload_n dX12_isBorne_111 rfl rfl ?_
        refine g_ic_ne (t := 119) dX12_isBorne_112 (by decide) (fun c13 => ?_) (fun c13 => ?_)
        · replace h := z_iff c13 h
          refine g_iconst (v := (0 : Int32)) dX12_isBorne_119 (by decide) ?_
          cases h
          exact g_iret dX12_isBorne_120 rfl rfl hq
        · replace h := z_ift c13 h
          refine g_iconst (v := (1 : Int32)) dX12_isBorne_115 (by decide) ?_
          refine g_goto (t := 120) dX12_isBorne_116 (by decide) ?_
          cases h
          exact g_iret dX12_isBorne_120 rfl rfl hq
      · replace h := z_ift c9 h
        refine g_aload_n dX12_isBorne_79 rfl rfl ?_
        refine g_get (a := 137) (v := .ref 144) dX12_isBorne_80 f_12_35 sh_137 rfl rfl ?_
        refine g_bipush (v := (8 : Int32)) dX12_isBorne_83 (by decide) ?_
        refine g_ialN (a := 142) (j := 8) (v := q3.2.1 142 8) dX12_isBorne_85 sh_142 rfl (by decide) rfl ?_
        refine g_iload_n dX12_isBorne_86 rfl rfl ?_
        refine g_ic_eq (t := 94) dX12_isBorne_87 (by decide) (fun c14 => ?_) (fun c14 => ?_)
        · replace h := z_ift c14 h
          refine g_iconst (v := (0 : Int32)) dX12_isBorne_94 (by decide) ?_
          refine g_goto (t := 120) dX12_isBorne_95 (by decide) ?_
          cases h
          exact g_iret dX12_isBorne_120 rfl rfl hq
        · replace h := z_iff c14 h
          refine g_iconst (v := (1 : Int32)) dX12_isBorne_90 (by decide) ?_
          refine g_goto (t := 120) dX12_isBorne_91 (by decide) ?_
          cases h
          exact g_iret dX12_isBorne_120 rfl rfl hq
    · replace h := z_ift c7 h
      refine g_aload_n dX12_isBorne_49 rfl rfl ?_
      refine g_get (a := 137) (v := .ref 144) dX12_isBorne_50 f_12_35 sh_137 rfl rfl ?_
      refine g_bipush (v := (8 : Int32)) dX12_isBorne_53 (by decide) ?_
      refine g_ialN (a := 142) (j := 8) (v := q3.2.1 142 8) dX12_isBorne_55 sh_142 rfl (by decide) rfl ?_
      refine g_iload_n dX12_isBorne_56 rfl rfl ?_
      refine g_ic_ne (t := 64) dX12_isBorne_57 (by decide) (fun c15 => ?_) (fun c15 => ?_)
      · replace h := z_iff c15 h
        refine g_iconst (v := (0 : Int32)) dX12_isBorne_64 (by decide) ?_
        cases h
        exact g_iret dX12_isBorne_65 rfl rfl hq
      · replace h := z_ift c15 h
        refine g_iconst (v := (1 : Int32)) dX12_isBorne_60 (by decide) ?_
        refine g_goto (t := 65) dX12_isBorne_61 (by decide) ?_
        cases h
        exact g_iret dX12_isBorne_65 rfl rfl hq
  · replace h := z_iff (z_tb0.mp c5) h
    refine g_iconst (v := (0 : Int32)) dX12_isBorne_35 (by decide) ?_
    cases h
    exact g_iret dX12_isBorne_36 rfl rfl hq
