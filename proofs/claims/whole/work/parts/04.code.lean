/-! ===== the code, its links resolved (by wip/whole/gen_code.py): by method; links into classes, fields, methods by their numbers ===== -/
def mc_objinit : am_M := (99, false, [
  [some (.return_, 1)]])
def mc_J6_bitCount_0f7a4 : am_M := (99, false, [
  [some (.iload_n 0, 1), some (.iload_n 0, 1), some (.iconst 1, 1), some (.iushr, 1), some (.ldc_w 1431655765, 3), none, none, some (.iand, 1), some (.isub, 1), some (.istore_n 0, 1), some (.iload_n 0, 1), some (.ldc_w 858993459, 3), none, none, some (.iand, 1), some (.iload_n 0, 1)],
  [some (.iconst 2, 1), some (.iushr, 1), some (.ldc_w 858993459, 3), none, none, some (.iand, 1), some (.iadd, 1), some (.istore_n 0, 1), some (.iload_n 0, 1), some (.iload_n 0, 1), some (.iconst 4, 1), some (.iushr, 1), some (.iadd, 1), some (.ldc_w 252645135, 3), none, none],
  [some (.iand, 1), some (.istore_n 0, 1), some (.iload_n 0, 1), some (.iload_n 0, 1), some (.bipush 8, 2), none, some (.iushr, 1), some (.iadd, 1), some (.istore_n 0, 1), some (.iload_n 0, 1), some (.iload_n 0, 1), some (.bipush 16, 2), none, some (.iushr, 1), some (.iadd, 1), some (.istore_n 0, 1)],
  [some (.iload_n 0, 1), some (.bipush 63, 2), none, some (.iand, 1), some (.ireturn, 1)]])
def mc_J7_copyOf_59c91 : am_M := (99, false, [
  [some (.iload_n 1, 1), some (.aload_n 0, 1), some (.arraylength, 1), some (.if_icmp .ne 11, 3), none, none, some (.aload_n 0, 1), some (.invokedynamic 1, 3), none, none, some (.checkcast 0, 3), none, none, some (.areturn, 1), some (.iload_n 1, 1), some (.newarray .int, 2)],
  [none, some (.astore_n 2, 1), some (.aload_n 0, 1), some (.iconst 0, 1), some (.aload_n 2, 1), some (.iconst 0, 1), some (.aload_n 0, 1), some (.arraylength, 1), some (.iload_n 1, 1), some (.invokedynamic 4, 3), none, none, some (.invokedynamic 0, 3), none, none, some (.aload_n 2, 1)],
  [some (.areturn, 1)]])
def mc_J7_fill_53178 : am_M := (99, false, [
  [some (.iconst 0, 1), some (.istore_n 2, 1), some (.aload_n 0, 1), some (.arraylength, 1), some (.istore_n 3, 1), some (.iload_n 2, 1), some (.iload_n 3, 1), some (.if_icmp .ge 13, 3), none, none, some (.aload_n 0, 1), some (.iload_n 2, 1), some (.iload_n 1, 1), some (.iastore, 1), some (.iinc 2 1, 3), none],
  [none, some (.goto (-12), 3), none, none, some (.return_, 1)]])
def mc_J9_min : am_M := (99, false, [
  [some (.iload_n 0, 1), some (.iload_n 1, 1), some (.if_icmp .gt 7, 3), none, none, some (.iload_n 0, 1), some (.goto 4, 3), none, none, some (.iload_n 1, 1), some (.ireturn, 1)]])
def mc_L_law : am_M := (99, true, [
  [some (.new 11, 3), none, none, some (.dup, 1), some (.invokespecial 10271, 3), none, none, some (.astore_n 1, 1), some (.new 12, 3), none, none, some (.dup, 1), some (.invokespecial 27423, 3), none, none, some (.astore_n 2, 1)],
  [some (.iconst 0, 1), some (.istore_n 3, 1), some (.iload_n 3, 1), some (.aload_n 0, 1), some (.arraylength, 1), some (.bipush 6, 2), none, some (.isub, 1), some (.if_icmp .gt 1793, 3), none, none, some (.aload_n 0, 1), some (.iload_n 3, 1), some (.iaload, 1), some (.bipush 63, 2), none],
  [some (.iand, 1), some (.tableswitch 1778 0 42 #[187, 230, 263, 286, 319, 352, 385, 428, 461, 504, 567, 600, 633, 666, 729, 742, 775, 819, 852, 885, 918, 961, 984, 1017, 1050, 1103, 1137, 1170, 1203, 1226, 1259, 1312, 1335, 1378, 1411, 1444, 1477, 1520, 1543, 1586, 1629, 1692, 1745], 187), none, none, none, none, none, none, none, none, none, none, none, none, none, none],
  [none, none, none, none, none, none, none, none, none, none, none, none, none, none, none, none],
  [none, none, none, none, none, none, none, none, none, none, none, none, none, none, none, none],
  [none, none, none, none, none, none, none, none, none, none, none, none, none, none, none, none],
  [none, none, none, none, none, none, none, none, none, none, none, none, none, none, none, none],
  [none, none, none, none, none, none, none, none, none, none, none, none, none, none, none, none],
  [none, none, none, none, none, none, none, none, none, none, none, none, none, none, none, none],
  [none, none, none, none, none, none, none, none, none, none, none, none, none, none, none, none],
  [none, none, none, none, none, none, none, none, none, none, none, none, none, none, none, none],
  [none, none, none, none, none, none, none, none, none, none, none, none, none, none, none, none],
  [none, none, none, none, none, none, none, none, none, none, none, none, none, none, none, none],
  [none, none, none, none, none, none, none, none, none, none, none, none, some (.aload_n 1, 1), some (.aload_n 0, 1), some (.iload_n 3, 1), some (.iconst 1, 1)],
  [some (.iadd, 1), some (.iaload, 1), some (.aload_n 0, 1), some (.iload_n 3, 1), some (.iconst 2, 1), some (.iadd, 1), some (.iaload, 1), some (.aload_n 0, 1), some (.iload_n 3, 1), some (.iconst 3, 1), some (.iadd, 1), some (.iaload, 1), some (.invokevirtual 15435, 3), none, none, some (.aload_n 2, 1)],
  [some (.aload_n 0, 1), some (.iload_n 3, 1), some (.iconst 1, 1), some (.iadd, 1), some (.iaload, 1), some (.aload_n 0, 1), some (.iload_n 3, 1), some (.iconst 2, 1), some (.iadd, 1), some (.iaload, 1), some (.aload_n 0, 1), some (.iload_n 3, 1), some (.iconst 3, 1), some (.iadd, 1), some (.iaload, 1), some (.invokevirtual 38220, 3)],
  [none, none, some (.if_icmp .eq 1553, 3), none, none, some (.iconst 0, 1), some (.ireturn, 1), some (.aload_n 1, 1), some (.aload_n 0, 1), some (.iload_n 3, 1), some (.iconst 1, 1), some (.iadd, 1), some (.iaload, 1), some (.aload_n 0, 1), some (.iload_n 3, 1), some (.iconst 2, 1)],
  [some (.iadd, 1), some (.iaload, 1), some (.invokevirtual 8507, 3), none, none, some (.aload_n 2, 1), some (.aload_n 0, 1), some (.iload_n 3, 1), some (.iconst 1, 1), some (.iadd, 1), some (.iaload, 1), some (.aload_n 0, 1), some (.iload_n 3, 1), some (.iconst 2, 1), some (.iadd, 1), some (.iaload, 1)],
  [some (.invokevirtual 24380, 3), none, none, some (.if_icmp .eq 1520, 3), none, none, some (.iconst 0, 1), some (.ireturn, 1), some (.aload_n 1, 1), some (.aload_n 0, 1), some (.iload_n 3, 1), some (.iconst 1, 1), some (.iadd, 1), some (.iaload, 1), some (.invokevirtual 14891, 3), none],
  [none, some (.aload_n 2, 1), some (.aload_n 0, 1), some (.iload_n 3, 1), some (.iconst 1, 1), some (.iadd, 1), some (.iaload, 1), some (.invokevirtual 36396, 3), none, none, some (.if_icmp .eq 1497, 3), none, none, some (.iconst 0, 1), some (.ireturn, 1), some (.aload_n 1, 1)],
  [some (.aload_n 0, 1), some (.iload_n 3, 1), some (.iconst 1, 1), some (.iadd, 1), some (.iaload, 1), some (.aload_n 0, 1), some (.iload_n 3, 1), some (.iconst 2, 1), some (.iadd, 1), some (.iaload, 1), some (.invokevirtual 13883, 3), none, none, some (.aload_n 2, 1), some (.aload_n 0, 1), some (.iload_n 3, 1)],
  [some (.iconst 1, 1), some (.iadd, 1), some (.iaload, 1), some (.aload_n 0, 1), some (.iload_n 3, 1), some (.iconst 2, 1), some (.iadd, 1), some (.iaload, 1), some (.invokevirtual 34876, 3), none, none, some (.if_icmp .eq 1464, 3), none, none, some (.iconst 0, 1), some (.ireturn, 1)],
  [some (.aload_n 1, 1), some (.aload_n 0, 1), some (.iload_n 3, 1), some (.iconst 1, 1), some (.iadd, 1), some (.iaload, 1), some (.aload_n 0, 1), some (.iload_n 3, 1), some (.iconst 2, 1), some (.iadd, 1), some (.iaload, 1), some (.invokevirtual 16187, 3), none, none, some (.aload_n 2, 1), some (.aload_n 0, 1)],
  [some (.iload_n 3, 1), some (.iconst 1, 1), some (.iadd, 1), some (.iaload, 1), some (.aload_n 0, 1), some (.iload_n 3, 1), some (.iconst 2, 1), some (.iadd, 1), some (.iaload, 1), some (.invokevirtual 39484, 3), none, none, some (.if_icmp .eq 1431, 3), none, none, some (.iconst 0, 1)],
  [some (.ireturn, 1), some (.aload_n 1, 1), some (.aload_n 0, 1), some (.iload_n 3, 1), some (.iconst 1, 1), some (.iadd, 1), some (.iaload, 1), some (.aload_n 0, 1), some (.iload_n 3, 1), some (.iconst 2, 1), some (.iadd, 1), some (.iaload, 1), some (.invokevirtual 14139, 3), none, none, some (.aload_n 2, 1)],
  [some (.aload_n 0, 1), some (.iload_n 3, 1), some (.iconst 1, 1), some (.iadd, 1), some (.iaload, 1), some (.aload_n 0, 1), some (.iload_n 3, 1), some (.iconst 2, 1), some (.iadd, 1), some (.iaload, 1), some (.invokevirtual 35132, 3), none, none, some (.if_icmp .eq 1398, 3), none, none],
  [some (.iconst 0, 1), some (.ireturn, 1), some (.aload_n 1, 1), some (.aload_n 0, 1), some (.iload_n 3, 1), some (.iconst 1, 1), some (.iadd, 1), some (.iaload, 1), some (.aload_n 0, 1), some (.iload_n 3, 1), some (.iconst 2, 1), some (.iadd, 1), some (.iaload, 1), some (.aload_n 0, 1), some (.iload_n 3, 1), some (.iconst 3, 1)],
  [some (.iadd, 1), some (.iaload, 1), some (.invokevirtual 18763, 3), none, none, some (.aload_n 2, 1), some (.aload_n 0, 1), some (.iload_n 3, 1), some (.iconst 1, 1), some (.iadd, 1), some (.iaload, 1), some (.aload_n 0, 1), some (.iload_n 3, 1), some (.iconst 2, 1), some (.iadd, 1), some (.iaload, 1)],
  [some (.aload_n 0, 1), some (.iload_n 3, 1), some (.iconst 3, 1), some (.iadd, 1), some (.iaload, 1), some (.invokevirtual 43084, 3), none, none, some (.if_icmp .eq 1355, 3), none, none, some (.iconst 0, 1), some (.ireturn, 1), some (.aload_n 1, 1), some (.aload_n 0, 1), some (.iload_n 3, 1)],
  [some (.iconst 1, 1), some (.iadd, 1), some (.iaload, 1), some (.aload_n 0, 1), some (.iload_n 3, 1), some (.iconst 2, 1), some (.iadd, 1), some (.iaload, 1), some (.invokevirtual 17723, 3), none, none, some (.aload_n 2, 1), some (.aload_n 0, 1), some (.iload_n 3, 1), some (.iconst 1, 1), some (.iadd, 1)],
  [some (.iaload, 1), some (.aload_n 0, 1), some (.iload_n 3, 1), some (.iconst 2, 1), some (.iadd, 1), some (.iaload, 1), some (.invokevirtual 41276, 3), none, none, some (.if_icmp .eq 1322, 3), none, none, some (.iconst 0, 1), some (.ireturn, 1), some (.aload_n 1, 1), some (.aload_n 0, 1)],
  [some (.iload_n 3, 1), some (.iconst 1, 1), some (.iadd, 1), some (.iaload, 1), some (.aload_n 0, 1), some (.iload_n 3, 1), some (.iconst 2, 1), some (.iadd, 1), some (.iaload, 1), some (.aload_n 0, 1), some (.iload_n 3, 1), some (.iconst 3, 1), some (.iadd, 1), some (.iaload, 1), some (.invokevirtual 6475, 3), none],
  [none, some (.aload_n 2, 1), some (.aload_n 0, 1), some (.iload_n 3, 1), some (.iconst 1, 1), some (.iadd, 1), some (.iaload, 1), some (.aload_n 0, 1), some (.iload_n 3, 1), some (.iconst 2, 1), some (.iadd, 1), some (.iaload, 1), some (.aload_n 0, 1), some (.iload_n 3, 1), some (.iconst 3, 1), some (.iadd, 1)],
  [some (.iaload, 1), some (.invokevirtual 22348, 3), none, none, some (.if_icmp .eq 1279, 3), none, none, some (.iconst 0, 1), some (.ireturn, 1), some (.aload_n 1, 1), some (.aload_n 0, 1), some (.iload_n 3, 1), some (.iconst 1, 1), some (.iadd, 1), some (.iaload, 1), some (.aload_n 0, 1)],
  [some (.iload_n 3, 1), some (.iconst 2, 1), some (.iadd, 1), some (.iaload, 1), some (.aload_n 0, 1), some (.iload_n 3, 1), some (.iconst 3, 1), some (.iadd, 1), some (.iaload, 1), some (.aload_n 0, 1), some (.iload_n 3, 1), some (.iconst 4, 1), some (.iadd, 1), some (.iaload, 1), some (.aload_n 0, 1), some (.iload_n 3, 1)],
  [some (.iconst 5, 1), some (.iadd, 1), some (.iaload, 1), some (.invokevirtual 4459, 3), none, none, some (.aload_n 2, 1), some (.aload_n 0, 1), some (.iload_n 3, 1), some (.iconst 1, 1), some (.iadd, 1), some (.iaload, 1), some (.aload_n 0, 1), some (.iload_n 3, 1), some (.iconst 2, 1), some (.iadd, 1)],
  [some (.iaload, 1), some (.aload_n 0, 1), some (.iload_n 3, 1), some (.iconst 3, 1), some (.iadd, 1), some (.iaload, 1), some (.aload_n 0, 1), some (.iload_n 3, 1), some (.iconst 4, 1), some (.iadd, 1), some (.iaload, 1), some (.aload_n 0, 1), some (.iload_n 3, 1), some (.iconst 5, 1), some (.iadd, 1), some (.iaload, 1)],
  [some (.invokevirtual 19308, 3), none, none, some (.if_icmp .eq 1216, 3), none, none, some (.iconst 0, 1), some (.ireturn, 1), some (.aload_n 1, 1), some (.aload_n 0, 1), some (.iload_n 3, 1), some (.iconst 1, 1), some (.iadd, 1), some (.iaload, 1), some (.aload_n 0, 1), some (.iload_n 3, 1)],
  [some (.iconst 2, 1), some (.iadd, 1), some (.iaload, 1), some (.invokevirtual 9531, 3), none, none, some (.aload_n 2, 1), some (.aload_n 0, 1), some (.iload_n 3, 1), some (.iconst 1, 1), some (.iadd, 1), some (.iaload, 1), some (.aload_n 0, 1), some (.iload_n 3, 1), some (.iconst 2, 1), some (.iadd, 1)],
  [some (.iaload, 1), some (.invokevirtual 26428, 3), none, none, some (.if_icmp .eq 1183, 3), none, none, some (.iconst 0, 1), some (.ireturn, 1), some (.aload_n 1, 1), some (.aload_n 0, 1), some (.iload_n 3, 1), some (.iconst 1, 1), some (.iadd, 1), some (.iaload, 1), some (.aload_n 0, 1)],
  [some (.iload_n 3, 1), some (.iconst 2, 1), some (.iadd, 1), some (.iaload, 1), some (.invokevirtual 13627, 3), none, none, some (.aload_n 2, 1), some (.aload_n 0, 1), some (.iload_n 3, 1), some (.iconst 1, 1), some (.iadd, 1), some (.iaload, 1), some (.aload_n 0, 1), some (.iload_n 3, 1), some (.iconst 2, 1)],
  [some (.iadd, 1), some (.iaload, 1), some (.invokevirtual 33596, 3), none, none, some (.if_icmp .eq 1150, 3), none, none, some (.iconst 0, 1), some (.ireturn, 1), some (.aload_n 1, 1), some (.aload_n 0, 1), some (.iload_n 3, 1), some (.iconst 1, 1), some (.iadd, 1), some (.iaload, 1)],
  [some (.aload_n 0, 1), some (.iload_n 3, 1), some (.iconst 2, 1), some (.iadd, 1), some (.iaload, 1), some (.invokevirtual 4667, 3), none, none, some (.aload_n 2, 1), some (.aload_n 0, 1), some (.iload_n 3, 1), some (.iconst 1, 1), some (.iadd, 1), some (.iaload, 1), some (.aload_n 0, 1), some (.iload_n 3, 1)],
  [some (.iconst 2, 1), some (.iadd, 1), some (.iaload, 1), some (.invokevirtual 19516, 3), none, none, some (.if_icmp .eq 1117, 3), none, none, some (.iconst 0, 1), some (.ireturn, 1), some (.aload_n 1, 1), some (.aload_n 0, 1), some (.iload_n 3, 1), some (.iconst 1, 1), some (.iadd, 1)],
  [some (.iaload, 1), some (.aload_n 0, 1), some (.iload_n 3, 1), some (.iconst 2, 1), some (.iadd, 1), some (.iaload, 1), some (.i2l, 1), some (.bipush 32, 2), none, some (.lshl, 1), some (.aload_n 0, 1), some (.iload_n 3, 1), some (.iconst 3, 1), some (.iadd, 1), some (.iaload, 1), some (.i2l, 1)],
  [some (.ldc2_w 4294967295, 3), none, none, some (.land, 1), some (.lor, 1), some (.invokevirtual 8763, 3), none, none, some (.aload_n 2, 1), some (.aload_n 0, 1), some (.iload_n 3, 1), some (.iconst 1, 1), some (.iadd, 1), some (.iaload, 1), some (.aload_n 0, 1), some (.iload_n 3, 1)],
  [some (.iconst 2, 1), some (.iadd, 1), some (.iaload, 1), some (.i2l, 1), some (.bipush 32, 2), none, some (.lshl, 1), some (.aload_n 0, 1), some (.iload_n 3, 1), some (.iconst 3, 1), some (.iadd, 1), some (.iaload, 1), some (.i2l, 1), some (.ldc2_w 4294967295, 3), none, none],
  [some (.land, 1), some (.lor, 1), some (.invokevirtual 24636, 3), none, none, some (.if_icmp .eq 1054, 3), none, none, some (.iconst 0, 1), some (.ireturn, 1), some (.aload_n 1, 1), some (.invokevirtual 18459, 3), none, none, some (.aload_n 2, 1), some (.invokevirtual 42780, 3)],
  [none, none, some (.if_icmp .eq 1041, 3), none, none, some (.iconst 0, 1), some (.ireturn, 1), some (.aload_n 1, 1), some (.aload_n 0, 1), some (.iload_n 3, 1), some (.iconst 1, 1), some (.iadd, 1), some (.iaload, 1), some (.aload_n 0, 1), some (.iload_n 3, 1), some (.iconst 2, 1)],
  [some (.iadd, 1), some (.iaload, 1), some (.invokevirtual 15675, 3), none, none, some (.aload_n 2, 1), some (.aload_n 0, 1), some (.iload_n 3, 1), some (.iconst 1, 1), some (.iadd, 1), some (.iaload, 1), some (.aload_n 0, 1), some (.iload_n 3, 1), some (.iconst 2, 1), some (.iadd, 1), some (.iaload, 1)],
  [some (.invokevirtual 38460, 3), none, none, some (.if_icmp .eq 1008, 3), none, none, some (.iconst 0, 1), some (.ireturn, 1), some (.aload_n 1, 1), some (.aload_n 0, 1), some (.iload_n 3, 1), some (.iconst 1, 1), some (.iadd, 1), some (.iaload, 1), some (.aload_n 0, 1), some (.iload_n 3, 1)],
  [some (.iconst 2, 1), some (.iadd, 1), some (.iaload, 1), some (.aload_n 0, 1), some (.iload_n 3, 1), some (.iconst 3, 1), some (.iadd, 1), some (.iaload, 1), some (.invokevirtual 15947, 3), none, none, some (.aload_n 2, 1), some (.aload_n 0, 1), some (.iload_n 3, 1), some (.iconst 1, 1), some (.iadd, 1)],
  [some (.iaload, 1), some (.aload_n 0, 1), some (.iload_n 3, 1), some (.iconst 2, 1), some (.iadd, 1), some (.iaload, 1), some (.aload_n 0, 1), some (.iload_n 3, 1), some (.iconst 3, 1), some (.iadd, 1), some (.iaload, 1), some (.invokevirtual 39244, 3), none, none, some (.lcmp, 1), some (.ifCond .eq 964, 3)],
  [none, none, some (.iconst 0, 1), some (.ireturn, 1), some (.aload_n 1, 1), some (.aload_n 0, 1), some (.iload_n 3, 1), some (.iconst 1, 1), some (.iadd, 1), some (.iaload, 1), some (.aload_n 0, 1), some (.iload_n 3, 1), some (.iconst 2, 1), some (.iadd, 1), some (.iaload, 1), some (.invokevirtual 4923, 3)],
  [none, none, some (.aload_n 2, 1), some (.aload_n 0, 1), some (.iload_n 3, 1), some (.iconst 1, 1), some (.iadd, 1), some (.iaload, 1), some (.aload_n 0, 1), some (.iload_n 3, 1), some (.iconst 2, 1), some (.iadd, 1), some (.iaload, 1), some (.invokevirtual 19772, 3), none, none],
  [some (.if_icmp .eq 931, 3), none, none, some (.iconst 0, 1), some (.ireturn, 1), some (.aload_n 1, 1), some (.aload_n 0, 1), some (.iload_n 3, 1), some (.iconst 1, 1), some (.iadd, 1), some (.iaload, 1), some (.aload_n 0, 1), some (.iload_n 3, 1), some (.iconst 2, 1), some (.iadd, 1), some (.iaload, 1)],
  [some (.invokevirtual 9019, 3), none, none, some (.aload_n 2, 1), some (.aload_n 0, 1), some (.iload_n 3, 1), some (.iconst 1, 1), some (.iadd, 1), some (.iaload, 1), some (.aload_n 0, 1), some (.iload_n 3, 1), some (.iconst 2, 1), some (.iadd, 1), some (.iaload, 1), some (.invokevirtual 24892, 3), none],
  [none, some (.if_icmp .eq 898, 3), none, none, some (.iconst 0, 1), some (.ireturn, 1), some (.aload_n 1, 1), some (.aload_n 0, 1), some (.iload_n 3, 1), some (.iconst 1, 1), some (.iadd, 1), some (.iaload, 1), some (.aload_n 0, 1), some (.iload_n 3, 1), some (.iconst 2, 1), some (.iadd, 1)],
  [some (.iaload, 1), some (.invokevirtual 10043, 3), none, none, some (.aload_n 2, 1), some (.aload_n 0, 1), some (.iload_n 3, 1), some (.iconst 1, 1), some (.iadd, 1), some (.iaload, 1), some (.aload_n 0, 1), some (.iload_n 3, 1), some (.iconst 2, 1), some (.iadd, 1), some (.iaload, 1), some (.invokevirtual 27196, 3)],
  [none, none, some (.if_icmp .eq 865, 3), none, none, some (.iconst 0, 1), some (.ireturn, 1), some (.aload_n 1, 1), some (.aload_n 0, 1), some (.iload_n 3, 1), some (.iconst 1, 1), some (.iadd, 1), some (.iaload, 1), some (.aload_n 0, 1), some (.iload_n 3, 1), some (.iconst 2, 1)],
  [some (.iadd, 1), some (.iaload, 1), some (.aload_n 0, 1), some (.iload_n 3, 1), some (.iconst 3, 1), some (.iadd, 1), some (.iaload, 1), some (.invokevirtual 5963, 3), none, none, some (.aload_n 2, 1), some (.aload_n 0, 1), some (.iload_n 3, 1), some (.iconst 1, 1), some (.iadd, 1), some (.iaload, 1)],
  [some (.aload_n 0, 1), some (.iload_n 3, 1), some (.iconst 2, 1), some (.iadd, 1), some (.iaload, 1), some (.aload_n 0, 1), some (.iload_n 3, 1), some (.iconst 3, 1), some (.iadd, 1), some (.iaload, 1), some (.invokevirtual 21580, 3), none, none, some (.if_icmp .eq 822, 3), none, none],
  [some (.iconst 0, 1), some (.ireturn, 1), some (.aload_n 1, 1), some (.aload_n 0, 1), some (.iload_n 3, 1), some (.iconst 1, 1), some (.iadd, 1), some (.iaload, 1), some (.invokevirtual 15147, 3), none, none, some (.aload_n 2, 1), some (.aload_n 0, 1), some (.iload_n 3, 1), some (.iconst 1, 1), some (.iadd, 1)],
  [some (.iaload, 1), some (.invokevirtual 37164, 3), none, none, some (.if_icmp .eq 799, 3), none, none, some (.iconst 0, 1), some (.ireturn, 1), some (.aload_n 1, 1), some (.aload_n 0, 1), some (.iload_n 3, 1), some (.iconst 1, 1), some (.iadd, 1), some (.iaload, 1), some (.aload_n 0, 1)],
  [some (.iload_n 3, 1), some (.iconst 2, 1), some (.iadd, 1), some (.iaload, 1), some (.invokevirtual 13371, 3), none, none, some (.aload_n 2, 1), some (.aload_n 0, 1), some (.iload_n 3, 1), some (.iconst 1, 1), some (.iadd, 1), some (.iaload, 1), some (.aload_n 0, 1), some (.iload_n 3, 1), some (.iconst 2, 1)],
  [some (.iadd, 1), some (.iaload, 1), some (.invokevirtual 32828, 3), none, none, some (.if_icmp .eq 766, 3), none, none, some (.iconst 0, 1), some (.ireturn, 1), some (.aload_n 1, 1), some (.aload_n 0, 1), some (.iload_n 3, 1), some (.iconst 1, 1), some (.iadd, 1), some (.iaload, 1)],
  [some (.aload_n 0, 1), some (.iload_n 3, 1), some (.iconst 2, 1), some (.iadd, 1), some (.iaload, 1), some (.invokevirtual 7995, 3), none, none, some (.aload_n 2, 1), some (.aload_n 0, 1), some (.iload_n 3, 1), some (.iconst 1, 1), some (.iadd, 1), some (.iaload, 1), some (.aload_n 0, 1), some (.iload_n 3, 1)],
  [some (.iconst 2, 1), some (.iadd, 1), some (.iaload, 1), some (.invokevirtual 23868, 3), none, none, some (.if_icmp .eq 733, 3), none, none, some (.iconst 0, 1), some (.ireturn, 1), some (.aload_n 1, 1), some (.aload_n 0, 1), some (.iload_n 3, 1), some (.iconst 1, 1), some (.iadd, 1)],
  [some (.iaload, 1), some (.aload_n 0, 1), some (.iload_n 3, 1), some (.iconst 2, 1), some (.iadd, 1), some (.iaload, 1), some (.aload_n 0, 1), some (.iload_n 3, 1), some (.iconst 3, 1), some (.iadd, 1), some (.iaload, 1), some (.aload_n 0, 1), some (.iload_n 3, 1), some (.iconst 4, 1), some (.iadd, 1), some (.iaload, 1)],
  [some (.invokevirtual 14683, 3), none, none, some (.aload_n 2, 1), some (.aload_n 0, 1), some (.iload_n 3, 1), some (.iconst 1, 1), some (.iadd, 1), some (.iaload, 1), some (.aload_n 0, 1), some (.iload_n 3, 1), some (.iconst 2, 1), some (.iadd, 1), some (.iaload, 1), some (.aload_n 0, 1), some (.iload_n 3, 1)],
  [some (.iconst 3, 1), some (.iadd, 1), some (.iaload, 1), some (.aload_n 0, 1), some (.iload_n 3, 1), some (.iconst 4, 1), some (.iadd, 1), some (.iaload, 1), some (.invokevirtual 36188, 3), none, none, some (.if_icmp .eq 680, 3), none, none, some (.iconst 0, 1), some (.ireturn, 1)],
  [some (.aload_n 1, 1), some (.aload_n 0, 1), some (.iload_n 3, 1), some (.iconst 1, 1), some (.iadd, 1), some (.iaload, 1), some (.aload_n 0, 1), some (.iload_n 3, 1), some (.iconst 2, 1), some (.iadd, 1), some (.iaload, 1), some (.invokevirtual 14395, 3), none, none, some (.aload_n 2, 1), some (.aload_n 0, 1)],
  [some (.iload_n 3, 1), some (.iconst 1, 1), some (.iadd, 1), some (.iaload, 1), some (.aload_n 0, 1), some (.iload_n 3, 1), some (.iconst 2, 1), some (.iadd, 1), some (.iaload, 1), some (.invokevirtual 35644, 3), none, none, some (.lcmp, 1), some (.ifCond .eq 646, 3), none, none],
  [some (.iconst 0, 1), some (.ireturn, 1), some (.aload_n 1, 1), some (.aload_n 0, 1), some (.iload_n 3, 1), some (.iconst 1, 1), some (.iadd, 1), some (.iaload, 1), some (.aload_n 0, 1), some (.iload_n 3, 1), some (.iconst 2, 1), some (.iadd, 1), some (.iaload, 1), some (.invokevirtual 8251, 3), none, none],
  [some (.aload_n 2, 1), some (.aload_n 0, 1), some (.iload_n 3, 1), some (.iconst 1, 1), some (.iadd, 1), some (.iaload, 1), some (.aload_n 0, 1), some (.iload_n 3, 1), some (.iconst 2, 1), some (.iadd, 1), some (.iaload, 1), some (.invokevirtual 24124, 3), none, none, some (.if_icmp .eq 613, 3), none],
  [none, some (.iconst 0, 1), some (.ireturn, 1), some (.aload_n 1, 1), some (.aload_n 0, 1), some (.iload_n 3, 1), some (.iconst 1, 1), some (.iadd, 1), some (.iaload, 1), some (.aload_n 0, 1), some (.iload_n 3, 1), some (.iconst 2, 1), some (.iadd, 1), some (.iaload, 1), some (.invokevirtual 6715, 3), none],
  [none, some (.aload_n 2, 1), some (.aload_n 0, 1), some (.iload_n 3, 1), some (.iconst 1, 1), some (.iadd, 1), some (.iaload, 1), some (.aload_n 0, 1), some (.iload_n 3, 1), some (.iconst 2, 1), some (.iadd, 1), some (.iaload, 1), some (.invokevirtual 22588, 3), none, none, some (.if_icmp .eq 580, 3)],
  [none, none, some (.iconst 0, 1), some (.ireturn, 1), some (.aload_n 1, 1), some (.aload_n 0, 1), some (.iload_n 3, 1), some (.iconst 1, 1), some (.iadd, 1), some (.iaload, 1), some (.invokevirtual 5419, 3), none, none, some (.aload_n 2, 1), some (.aload_n 0, 1), some (.iload_n 3, 1)],
  [some (.iconst 1, 1), some (.iadd, 1), some (.iaload, 1), some (.invokevirtual 21036, 3), none, none, some (.if_icmp .eq 557, 3), none, none, some (.iconst 0, 1), some (.ireturn, 1), some (.aload_n 1, 1), some (.aload_n 0, 1), some (.iload_n 3, 1), some (.iconst 1, 1), some (.iadd, 1)],
  [some (.iaload, 1), some (.aload_n 0, 1), some (.iload_n 3, 1), some (.iconst 2, 1), some (.iadd, 1), some (.iaload, 1), some (.invokevirtual 16443, 3), none, none, some (.aload_n 2, 1), some (.aload_n 0, 1), some (.iload_n 3, 1), some (.iconst 1, 1), some (.iadd, 1), some (.iaload, 1), some (.aload_n 0, 1)],
  [some (.iload_n 3, 1), some (.iconst 2, 1), some (.iadd, 1), some (.iaload, 1), some (.invokevirtual 39740, 3), none, none, some (.if_icmp .eq 524, 3), none, none, some (.iconst 0, 1), some (.ireturn, 1), some (.aload_n 1, 1), some (.aload_n 0, 1), some (.iload_n 3, 1), some (.iconst 1, 1)],
  [some (.iadd, 1), some (.iaload, 1), some (.aload_n 0, 1), some (.iload_n 3, 1), some (.iconst 2, 1), some (.iadd, 1), some (.iaload, 1), some (.aload_n 0, 1), some (.iload_n 3, 1), some (.iconst 3, 1), some (.iadd, 1), some (.iaload, 1), some (.aload_n 0, 1), some (.iload_n 3, 1), some (.iconst 4, 1), some (.iadd, 1)],
  [some (.iaload, 1), some (.invokevirtual 7515, 3), none, none, some (.aload_n 2, 1), some (.aload_n 0, 1), some (.iload_n 3, 1), some (.iconst 1, 1), some (.iadd, 1), some (.iaload, 1), some (.aload_n 0, 1), some (.iload_n 3, 1), some (.iconst 2, 1), some (.iadd, 1), some (.iaload, 1), some (.aload_n 0, 1)],
  [some (.iload_n 3, 1), some (.iconst 3, 1), some (.iadd, 1), some (.iaload, 1), some (.aload_n 0, 1), some (.iload_n 3, 1), some (.iconst 4, 1), some (.iadd, 1), some (.iaload, 1), some (.invokevirtual 23388, 3), none, none, some (.if_icmp .eq 471, 3), none, none, some (.iconst 0, 1)],
  [some (.ireturn, 1), some (.aload_n 1, 1), some (.aload_n 0, 1), some (.iload_n 3, 1), some (.iconst 1, 1), some (.iadd, 1), some (.iaload, 1), some (.invokevirtual 6955, 3), none, none, some (.aload_n 2, 1), some (.aload_n 0, 1), some (.iload_n 3, 1), some (.iconst 1, 1), some (.iadd, 1), some (.iaload, 1)],
  [some (.invokevirtual 22828, 3), none, none, some (.if_icmp .eq 448, 3), none, none, some (.iconst 0, 1), some (.ireturn, 1), some (.aload_n 1, 1), some (.aload_n 0, 1), some (.iload_n 3, 1), some (.iconst 1, 1), some (.iadd, 1), some (.iaload, 1), some (.aload_n 0, 1), some (.iload_n 3, 1)],
  [some (.iconst 2, 1), some (.iadd, 1), some (.iaload, 1), some (.aload_n 0, 1), some (.iload_n 3, 1), some (.iconst 3, 1), some (.iadd, 1), some (.iaload, 1), some (.invokevirtual 19019, 3), none, none, some (.aload_n 2, 1), some (.aload_n 0, 1), some (.iload_n 3, 1), some (.iconst 1, 1), some (.iadd, 1)],
  [some (.iaload, 1), some (.aload_n 0, 1), some (.iload_n 3, 1), some (.iconst 2, 1), some (.iadd, 1), some (.iaload, 1), some (.aload_n 0, 1), some (.iload_n 3, 1), some (.iconst 3, 1), some (.iadd, 1), some (.iaload, 1), some (.invokevirtual 44364, 3), none, none, some (.if_icmp .eq 405, 3), none],
  [none, some (.iconst 0, 1), some (.ireturn, 1), some (.aload_n 1, 1), some (.aload_n 0, 1), some (.iload_n 3, 1), some (.iconst 1, 1), some (.iadd, 1), some (.iaload, 1), some (.aload_n 0, 1), some (.iload_n 3, 1), some (.iconst 2, 1), some (.iadd, 1), some (.iaload, 1), some (.invokevirtual 5179, 3), none],
  [none, some (.aload_n 2, 1), some (.aload_n 0, 1), some (.iload_n 3, 1), some (.iconst 1, 1), some (.iadd, 1), some (.iaload, 1), some (.aload_n 0, 1), some (.iload_n 3, 1), some (.iconst 2, 1), some (.iadd, 1), some (.iaload, 1), some (.invokevirtual 20028, 3), none, none, some (.if_icmp .eq 372, 3)],
  [none, none, some (.iconst 0, 1), some (.ireturn, 1), some (.aload_n 1, 1), some (.aload_n 0, 1), some (.iload_n 3, 1), some (.iconst 1, 1), some (.iadd, 1), some (.iaload, 1), some (.aload_n 0, 1), some (.iload_n 3, 1), some (.iconst 2, 1), some (.iadd, 1), some (.iaload, 1), some (.invokevirtual 17211, 3)],
  [none, none, some (.aload_n 2, 1), some (.aload_n 0, 1), some (.iload_n 3, 1), some (.iconst 1, 1), some (.iadd, 1), some (.iaload, 1), some (.aload_n 0, 1), some (.iload_n 3, 1), some (.iconst 2, 1), some (.iadd, 1), some (.iaload, 1), some (.invokevirtual 40764, 3), none, none],
  [some (.if_icmp .eq 339, 3), none, none, some (.iconst 0, 1), some (.ireturn, 1), some (.aload_n 1, 1), some (.aload_n 0, 1), some (.iload_n 3, 1), some (.iconst 1, 1), some (.iadd, 1), some (.iaload, 1), some (.aload_n 0, 1), some (.iload_n 3, 1), some (.iconst 2, 1), some (.iadd, 1), some (.iaload, 1)],
  [some (.invokevirtual 5691, 3), none, none, some (.aload_n 2, 1), some (.aload_n 0, 1), some (.iload_n 3, 1), some (.iconst 1, 1), some (.iadd, 1), some (.iaload, 1), some (.aload_n 0, 1), some (.iload_n 3, 1), some (.iconst 2, 1), some (.iadd, 1), some (.iaload, 1), some (.invokevirtual 21308, 3), none],
  [none, some (.if_icmp .eq 306, 3), none, none, some (.iconst 0, 1), some (.ireturn, 1), some (.aload_n 1, 1), some (.aload_n 0, 1), some (.iload_n 3, 1), some (.iconst 1, 1), some (.iadd, 1), some (.iaload, 1), some (.aload_n 0, 1), some (.iload_n 3, 1), some (.iconst 2, 1), some (.iadd, 1)],
  [some (.iaload, 1), some (.aload_n 0, 1), some (.iload_n 3, 1), some (.iconst 3, 1), some (.iadd, 1), some (.iaload, 1), some (.invokevirtual 13131, 3), none, none, some (.aload_n 2, 1), some (.aload_n 0, 1), some (.iload_n 3, 1), some (.iconst 1, 1), some (.iadd, 1), some (.iaload, 1), some (.aload_n 0, 1)],
  [some (.iload_n 3, 1), some (.iconst 2, 1), some (.iadd, 1), some (.iaload, 1), some (.aload_n 0, 1), some (.iload_n 3, 1), some (.iconst 3, 1), some (.iadd, 1), some (.iaload, 1), some (.invokevirtual 32332, 3), none, none, some (.if_icmp .eq 263, 3), none, none, some (.iconst 0, 1)],
  [some (.ireturn, 1), some (.aload_n 1, 1), some (.aload_n 0, 1), some (.iload_n 3, 1), some (.iconst 1, 1), some (.iadd, 1), some (.iaload, 1), some (.invokevirtual 7723, 3), none, none, some (.aload_n 2, 1), some (.aload_n 0, 1), some (.iload_n 3, 1), some (.iconst 1, 1), some (.iadd, 1), some (.iaload, 1)],
  [some (.invokevirtual 23596, 3), none, none, some (.if_icmp .eq 240, 3), none, none, some (.iconst 0, 1), some (.ireturn, 1), some (.aload_n 1, 1), some (.aload_n 0, 1), some (.iload_n 3, 1), some (.iconst 1, 1), some (.iadd, 1), some (.iaload, 1), some (.aload_n 0, 1), some (.iload_n 3, 1)],
  [some (.iconst 2, 1), some (.iadd, 1), some (.iaload, 1), some (.aload_n 0, 1), some (.iload_n 3, 1), some (.iconst 3, 1), some (.iadd, 1), some (.iaload, 1), some (.invokevirtual 17483, 3), none, none, some (.aload_n 2, 1), some (.aload_n 0, 1), some (.iload_n 3, 1), some (.iconst 1, 1), some (.iadd, 1)],
  [some (.iaload, 1), some (.aload_n 0, 1), some (.iload_n 3, 1), some (.iconst 2, 1), some (.iadd, 1), some (.iaload, 1), some (.aload_n 0, 1), some (.iload_n 3, 1), some (.iconst 3, 1), some (.iadd, 1), some (.iaload, 1), some (.invokevirtual 41036, 3), none, none, some (.if_icmp .eq 197, 3), none],
  [none, some (.iconst 0, 1), some (.ireturn, 1), some (.aload_n 1, 1), some (.aload_n 0, 1), some (.iload_n 3, 1), some (.iconst 1, 1), some (.iadd, 1), some (.iaload, 1), some (.aload_n 0, 1), some (.iload_n 3, 1), some (.iconst 2, 1), some (.iadd, 1), some (.iaload, 1), some (.aload_n 0, 1), some (.iload_n 3, 1)],
  [some (.iconst 3, 1), some (.iadd, 1), some (.iaload, 1), some (.invokevirtual 6219, 3), none, none, some (.aload_n 2, 1), some (.aload_n 0, 1), some (.iload_n 3, 1), some (.iconst 1, 1), some (.iadd, 1), some (.iaload, 1), some (.aload_n 0, 1), some (.iload_n 3, 1), some (.iconst 2, 1), some (.iadd, 1)],
  [some (.iaload, 1), some (.aload_n 0, 1), some (.iload_n 3, 1), some (.iconst 3, 1), some (.iadd, 1), some (.iaload, 1), some (.invokevirtual 22092, 3), none, none, some (.if_icmp .eq 154, 3), none, none, some (.iconst 0, 1), some (.ireturn, 1), some (.aload_n 1, 1), some (.aload_n 0, 1)],
  [some (.iload_n 3, 1), some (.iconst 1, 1), some (.iadd, 1), some (.iaload, 1), some (.aload_n 0, 1), some (.iload_n 3, 1), some (.iconst 2, 1), some (.iadd, 1), some (.iaload, 1), some (.aload_n 0, 1), some (.iload_n 3, 1), some (.iconst 3, 1), some (.iadd, 1), some (.iaload, 1), some (.aload_n 0, 1), some (.iload_n 3, 1)],
  [some (.iconst 4, 1), some (.iadd, 1), some (.iaload, 1), some (.aload_n 0, 1), some (.iload_n 3, 1), some (.iconst 5, 1), some (.iadd, 1), some (.iaload, 1), some (.invokevirtual 7275, 3), none, none, some (.aload_n 2, 1), some (.aload_n 0, 1), some (.iload_n 3, 1), some (.iconst 1, 1), some (.iadd, 1)],
  [some (.iaload, 1), some (.aload_n 0, 1), some (.iload_n 3, 1), some (.iconst 2, 1), some (.iadd, 1), some (.iaload, 1), some (.aload_n 0, 1), some (.iload_n 3, 1), some (.iconst 3, 1), some (.iadd, 1), some (.iaload, 1), some (.aload_n 0, 1), some (.iload_n 3, 1), some (.iconst 4, 1), some (.iadd, 1), some (.iaload, 1)],
  [some (.aload_n 0, 1), some (.iload_n 3, 1), some (.iconst 5, 1), some (.iadd, 1), some (.iaload, 1), some (.invokevirtual 23148, 3), none, none, some (.if_icmp .eq 91, 3), none, none, some (.iconst 0, 1), some (.ireturn, 1), some (.aload_n 1, 1), some (.aload_n 0, 1), some (.iload_n 3, 1)],
  [some (.iconst 1, 1), some (.iadd, 1), some (.iaload, 1), some (.aload_n 0, 1), some (.iload_n 3, 1), some (.iconst 2, 1), some (.iadd, 1), some (.iaload, 1), some (.aload_n 0, 1), some (.iload_n 3, 1), some (.iconst 3, 1), some (.iadd, 1), some (.iaload, 1), some (.aload_n 0, 1), some (.iload_n 3, 1), some (.iconst 4, 1)],
  [some (.iadd, 1), some (.iaload, 1), some (.invokevirtual 16731, 3), none, none, some (.aload_n 2, 1), some (.aload_n 0, 1), some (.iload_n 3, 1), some (.iconst 1, 1), some (.iadd, 1), some (.iaload, 1), some (.aload_n 0, 1), some (.iload_n 3, 1), some (.iconst 2, 1), some (.iadd, 1), some (.iaload, 1)],
  [some (.aload_n 0, 1), some (.iload_n 3, 1), some (.iconst 3, 1), some (.iadd, 1), some (.iaload, 1), some (.aload_n 0, 1), some (.iload_n 3, 1), some (.iconst 4, 1), some (.iadd, 1), some (.iaload, 1), some (.invokevirtual 40284, 3), none, none, some (.if_icmp .eq 38, 3), none, none],
  [some (.iconst 0, 1), some (.ireturn, 1), some (.aload_n 1, 1), some (.aload_n 0, 1), some (.iload_n 3, 1), some (.iconst 1, 1), some (.iadd, 1), some (.iaload, 1), some (.aload_n 0, 1), some (.iload_n 3, 1), some (.iconst 2, 1), some (.iadd, 1), some (.iaload, 1), some (.invokevirtual 18235, 3), none, none],
  [some (.aload_n 2, 1), some (.aload_n 0, 1), some (.iload_n 3, 1), some (.iconst 1, 1), some (.iadd, 1), some (.iaload, 1), some (.aload_n 0, 1), some (.iload_n 3, 1), some (.iconst 2, 1), some (.iadd, 1), some (.iaload, 1), some (.invokevirtual 42300, 3), none, none, some (.if_icmp .eq 5, 3), none],
  [none, some (.iconst 0, 1), some (.ireturn, 1), some (.iinc 3 6, 3), none, none, some (.goto (-1796), 3), none, none, some (.iconst 1, 1), some (.ireturn, 1)]])
def mc_X0_add : am_M := (99, false, [
  [some (.aload_n 0, 1), some (.getfield 0, 3), none, none, some (.aload_n 0, 1), some (.getfield 3, 3), none, none, some (.iload_n 1, 1), some (.iastore, 1), some (.aload_n 0, 1), some (.dup, 1), some (.getfield 3, 3), none, none, some (.dup_x1, 1)],
  [some (.iconst 1, 1), some (.iadd, 1), some (.putfield 3, 3), none, none, some (.ireturn, 1)]])
def mc_X0_init : am_M := (0, false, [
  [some (.aload_n 0, 1), some (.invokespecial 31, 3), none, none, some (.aload_n 0, 1), some (.bipush 8, 2), none, some (.newarray .int, 2), none, some (.putfield 0, 3), none, none, some (.aload_n 0, 1), some (.bipush 8, 2), none, some (.newarray .int, 2)],
  [none, some (.putfield 1, 3), none, none, some (.aload_n 0, 1), some (.bipush 8, 2), none, some (.bipush 8, 2), none, some (.multianewarray 3 2, 4), none, none, none, some (.putfield 2, 3), none, none],
  [some (.return_, 1)]])
def mc_X0_isBetter : am_M := (99, true, [
  [some (.iload_n 1, 1), some (.invokestatic 287, 3), none, none, some (.iload_n 2, 1), some (.invokestatic 287, 3), none, none, some (.isub, 1), some (.istore 4, 2), none, some (.iload 4, 2), none, some (.ifCond .eq 14, 3), none, none],
  [some (.iload 4, 2), none, some (.ifCond .le 7, 3), none, none, some (.iconst 1, 1), some (.goto 4, 3), none, none, some (.iconst 0, 1), some (.ireturn, 1), some (.aload_n 0, 1), some (.iload_n 2, 1), some (.iload_n 3, 1), some (.invokevirtual 2864, 3), none],
  [none, some (.aload_n 0, 1), some (.iload_n 1, 1), some (.iload_n 3, 1), some (.invokevirtual 2864, 3), none, none, some (.isub, 1), some (.istore 5, 2), none, some (.iload 5, 2), none, some (.ifCond .eq 14, 3), none, none, some (.iload 5, 2)],
  [none, some (.ifCond .le 7, 3), none, none, some (.iconst 1, 1), some (.goto 4, 3), none, none, some (.iconst 0, 1), some (.ireturn, 1), some (.aload_n 0, 1), some (.iload_n 1, 1), some (.invokevirtual 2592, 3), none, none, some (.invokestatic 287, 3)],
  [none, none, some (.aload_n 0, 1), some (.iload_n 2, 1), some (.invokevirtual 2592, 3), none, none, some (.invokestatic 287, 3), none, none, some (.if_icmp .le 7, 3), none, none, some (.iconst 1, 1), some (.goto 4, 3), none],
  [none, some (.iconst 0, 1), some (.ireturn, 1)]])
def mc_X0_settled : am_M := (99, false, [
  [some (.iconst 0, 1), some (.istore_n 3, 1), some (.iconst 1, 1), some (.istore 4, 2), none, some (.iload 4, 2), none, some (.iconst 1, 1), some (.aload_n 0, 1), some (.getfield 3, 3), none, none, some (.ishl, 1), some (.if_icmp .ge 72, 3), none, none],
  [some (.iload 4, 2), none, some (.invokestatic 287, 3), none, none, some (.iload_n 3, 1), some (.invokestatic 287, 3), none, none, some (.if_icmp .lt 19, 3), none, none, some (.aload_n 0, 1), some (.getfield 1, 3), none, none],
  [some (.iload 4, 2), none, some (.invokestatic 9263, 3), none, none, some (.ifCond .eq 7, 3), none, none, some (.iconst 1, 1), some (.goto 4, 3), none, none, some (.iconst 0, 1), some (.istore 5, 2), none, some (.iload 5, 2)],
  [none, some (.ifCond .eq 30, 3), none, none, some (.aload_n 0, 1), some (.iload 4, 2), none, some (.invokevirtual 2592, 3), none, none, some (.invokestatic 287, 3), none, none, some (.iload_n 1, 1), some (.if_icmp .lt 17, 3), none],
  [none, some (.aload_n 0, 1), some (.iload 4, 2), none, some (.iload_n 3, 1), some (.iload_n 2, 1), some (.invokevirtual 2112, 3), none, none, some (.ifCond .eq 6, 3), none, none, some (.iload 4, 2), none, some (.istore_n 3, 1), some (.iinc 4 1, 3)],
  [none, none, some (.goto (-77), 3), none, none, some (.iload_n 3, 1), some (.ireturn, 1)]])
def mc_X0_takersOf : am_M := (99, false, [
  [some (.iconst 0, 1), some (.istore_n 2, 1), some (.iconst 0, 1), some (.istore_n 3, 1), some (.iload_n 3, 1), some (.bipush 8, 2), none, some (.if_icmp .ge 32, 3), none, none, some (.iload_n 2, 1), some (.aload_n 0, 1), some (.getfield 2, 3), none, none, some (.iload_n 3, 1)],
  [some (.aaload, 1), some (.iload_n 1, 1), some (.invokestatic 17967, 3), none, none, some (.ifCond .lt 9, 3), none, none, some (.iconst 1, 1), some (.iload_n 3, 1), some (.ishl, 1), some (.goto 4, 3), none, none, some (.iconst 0, 1), some (.ior, 1)],
  [some (.istore_n 2, 1), some (.iinc 3 1, 3), none, none, some (.goto (-32), 3), none, none, some (.iload_n 2, 1), some (.ireturn, 1)]])
def mc_X0_undoneBy : am_M := (99, false, [
  [some (.iconst 0, 1), some (.istore_n 3, 1), some (.iconst 0, 1), some (.istore 4, 2), none, some (.iload 4, 2), none, some (.aload_n 0, 1), some (.getfield 3, 3), none, none, some (.if_icmp .ge 32, 3), none, none, some (.iload_n 3, 1), some (.iload_n 1, 1)],
  [some (.iload 4, 2), none, some (.invokestatic 9775, 3), none, none, some (.ifCond .eq 13, 3), none, none, some (.aload_n 0, 1), some (.getfield 0, 3), none, none, some (.iload 4, 2), none, some (.iaload, 1), some (.goto 4, 3)],
  [none, none, some (.iconst 0, 1), some (.ior, 1), some (.istore_n 3, 1), some (.iinc 4 1, 3), none, none, some (.goto (-35), 3), none, none, some (.iload_n 3, 1), some (.iload_n 2, 1), some (.iand, 1), some (.invokestatic 287, 3), none],
  [none, some (.ireturn, 1)]])
def mc_X10_become : am_M := (99, false, [
  [some (.aload_n 0, 1), some (.iload_n 1, 1), some (.putfield 640, 3), none, none, some (.aload_n 0, 1), some (.iload_n 2, 1), some (.putfield 641, 3), none, none, some (.aload_n 0, 1), some (.getfield 642, 3), none, none, some (.iconst 0, 1), some (.invokestatic 815, 3)],
  [none, none, some (.return_, 1)]])
def mc_X10_holds : am_M := (99, true, [
  [some (.iload_n 1, 1), some (.ifCond .lt 29, 3), none, none, some (.iload_n 2, 1), some (.ifCond .lt 25, 3), none, none, some (.iload_n 2, 1), some (.aload_n 0, 1), some (.getfield 641, 3), none, none, some (.if_icmp .gt 17, 3), none, none],
  [some (.iload_n 1, 1), some (.aload_n 0, 1), some (.getfield 641, 3), none, none, some (.iload_n 2, 1), some (.isub, 1), some (.if_icmp .gt 7, 3), none, none, some (.iconst 1, 1), some (.goto 4, 3), none, none, some (.iconst 0, 1), some (.ireturn, 1)]])
def mc_X10_init : am_M := (10, false, [
  [some (.aload_n 0, 1), some (.invokespecial 31, 3), none, none, some (.aload_n 0, 1), some (.iconst (-1), 1), some (.putfield 640, 3), none, none, some (.aload_n 0, 1), some (.bipush 40, 2), none, some (.newarray .int, 2), none, some (.putfield 642, 3), none],
  [none, some (.return_, 1)]])
def mc_X10_isMissing : am_M := (99, true, [
  [some (.aload_n 0, 1), some (.getfield 640, 3), none, none, some (.iconst (-1), 1), some (.if_icmp .ne 7, 3), none, none, some (.iconst 1, 1), some (.goto 4, 3), none, none, some (.iconst 0, 1), some (.ireturn, 1)]])
def mc_X10_put : am_M := (99, false, [
  [some (.aload_n 0, 1), some (.getfield 642, 3), none, none, some (.iload_n 1, 1), some (.aload_n 0, 1), some (.getfield 640, 3), none, none, some (.ifCond .ne 8, 3), none, none, some (.iload_n 2, 1), some (.i2b, 1), some (.goto 17, 3), none],
  [none, some (.aload_n 0, 1), some (.getfield 640, 3), none, none, some (.iconst 1, 1), some (.if_icmp .ne 8, 3), none, none, some (.iload_n 2, 1), some (.i2s, 1), some (.goto 4, 3), none, none, some (.iload_n 2, 1), some (.iastore, 1)],
  [some (.return_, 1)]])
def mc_X11_act : am_M := (99, false, [
  [some (.iload_n 1, 1), some (.iconst 0, 1), some (.iconst 5, 1), some (.invokestatic 12863, 3), none, none, some (.ifCond .eq 11, 3), none, none, some (.aload_n 0, 1), some (.iload_n 2, 1), some (.invokevirtual 11819, 3), none, none, some (.ifCond .ne 6, 3), none],
  [none, some (.bipush (-2), 2), none, some (.ireturn, 1), some (.iload_n 3, 1), some (.iconst 0, 1), some (.iload_n 1, 1), some (.iconst 1, 1), some (.if_icmp .ne 8, 3), none, none, some (.bipush 71, 2), none, some (.goto 5, 3), none, none],
  [some (.bipush 99, 2), none, some (.invokestatic 12863, 3), none, none, some (.ifCond .ne 6, 3), none, none, some (.bipush (-2), 2), none, some (.ireturn, 1), some (.iload 4, 2), none, some (.invokestatic 11039, 3), none, none],
  [some (.ifCond .eq 13, 3), none, none, some (.iload 5, 2), none, some (.iconst 0, 1), some (.iconst 1, 1), some (.invokestatic 12863, 3), none, none, some (.ifCond .ne 6, 3), none, none, some (.bipush (-2), 2), none, some (.ireturn, 1)],
  [some (.iload_n 1, 1), some (.iconst 1, 1), some (.if_icmp .ne 17, 3), none, none, some (.aload_n 0, 1), some (.iload_n 3, 1), some (.bipush 12, 2), none, some (.irem, 1), some (.invokevirtual 11819, 3), none, none, some (.ifCond .ne 6, 3), none, none],
  [some (.bipush (-2), 2), none, some (.ireturn, 1), some (.aload_n 0, 1), some (.getfield 706, 3), none, none, some (.getfield 135, 3), none, none, some (.bipush 24, 2), none, some (.if_icmp .lt 8, 3), none, none, some (.bipush (-4), 2)],
  [none, some (.goto 17, 3), none, none, some (.aload_n 0, 1), some (.getfield 706, 3), none, none, some (.iload_n 1, 1), some (.iload_n 2, 1), some (.iload_n 3, 1), some (.iload 4, 2), none, some (.iload 5, 2), none, some (.invokevirtual 48994, 3)],
  [none, none, some (.ireturn, 1)]])
def mc_X11_actTold : am_M := (99, false, [
  [some (.aload_n 0, 1), some (.iload_n 1, 1), some (.invokevirtual 10539, 3), none, none, some (.ifCond .eq 25, 3), none, none, some (.iload_n 2, 1), some (.iconst 0, 1), some (.bipush 7, 2), none, some (.invokestatic 12863, 3), none, none, some (.ifCond .eq 15, 3)],
  [none, none, some (.aload_n 0, 1), some (.getfield 706, 3), none, none, some (.iload_n 1, 1), some (.iload_n 2, 1), some (.invokevirtual 50226, 3), none, none, some (.goto 5, 3), none, none, some (.bipush (-2), 2), none],
  [some (.ireturn, 1)]])
def mc_X11_acts : am_M := (99, false, [
  [some (.iload_n 1, 1), some (.invokestatic 12319, 3), none, none, some (.ifCond .eq 12, 3), none, none, some (.iload_n 2, 1), some (.iconst 0, 1), some (.iconst 3, 1), some (.invokestatic 12863, 3), none, none, some (.ifCond .ne 6, 3), none, none],
  [some (.bipush (-2), 2), none, some (.ireturn, 1), some (.aload_n 0, 1), some (.getfield 707, 3), none, none, some (.iload_n 1, 1), some (.iconst 0, 1), some (.invokevirtual 48177, 3), none, none, some (.istore_n 3, 1), some (.iload_n 2, 1), some (.ifCond .ne 5, 3), none],
  [none, some (.iload_n 3, 1), some (.ireturn, 1), some (.aload_n 0, 1), some (.getfield 707, 3), none, none, some (.iload_n 1, 1), some (.iconst 1, 1), some (.invokevirtual 48177, 3), none, none, some (.istore 4, 2), none, some (.aload_n 0, 1), some (.getfield 707, 3)],
  [none, none, some (.iload_n 3, 1), some (.iload 4, 2), none, some (.invokevirtual 45617, 3), none, none, some (.istore 5, 2), none, some (.iload_n 2, 1), some (.iconst 1, 1), some (.if_icmp .ne 6, 3), none, none, some (.iload 5, 2)],
  [none, some (.ireturn, 1), some (.aload_n 0, 1), some (.getfield 707, 3), none, none, some (.iload_n 3, 1), some (.iload 4, 2), none, some (.invokevirtual 45105, 3), none, none, some (.istore 6, 2), none, some (.iload_n 2, 1), some (.iconst 2, 1)],
  [some (.if_icmp .ne 8, 3), none, none, some (.iload 6, 2), none, some (.goto 10, 3), none, none, some (.iload 5, 2), none, some (.iload 6, 2), none, some (.iconst (-1), 1), some (.ixor, 1), some (.iand, 1), some (.ireturn, 1)]])
def mc_X11_against : am_M := (99, false, [
  [some (.aload_n 0, 1), some (.iload_n 1, 1), some (.invokevirtual 10795, 3), none, none, some (.ifCond .eq 16, 3), none, none, some (.aload_n 0, 1), some (.iload_n 2, 1), some (.invokevirtual 10795, 3), none, none, some (.ifCond .eq 8, 3), none, none],
  [some (.iload_n 1, 1), some (.iload_n 2, 1), some (.if_icmp .ne 6, 3), none, none, some (.bipush (-2), 2), none, some (.ireturn, 1), some (.aload_n 0, 1), some (.getfield 711, 3), none, none, some (.getfield 1, 3), none, none, some (.iload_n 1, 1)],
  [some (.iload_n 2, 1), some (.invokestatic 16959, 3), none, none, some (.ireturn, 1)]])
def mc_X11_bought : am_M := (99, false, [
  [some (.iload_n 1, 1), some (.iconst 0, 1), some (.iconst 1, 1), some (.invokestatic 12863, 3), none, none, some (.ifCond .ne 6, 3), none, none, some (.bipush (-2), 2), none, some (.ireturn, 1), some (.aload_n 0, 1), some (.getfield 710, 3), none, none],
  [some (.invokevirtual 50707, 3), none, none, some (.istore_n 2, 1), some (.iload_n 2, 1), some (.iconst (-1), 1), some (.if_icmp .eq 7, 3), none, none, some (.iload_n 1, 1), some (.ifCond .ne 7, 3), none, none, some (.iload_n 2, 1), some (.goto 14, 3), none],
  [none, some (.aload_n 0, 1), some (.getfield 710, 3), none, none, some (.getfield 192, 3), none, none, some (.iload_n 2, 1), some (.invokestatic 17967, 3), none, none, some (.ireturn, 1)]])
def mc_X11_bound : am_M := (99, false, [
  [some (.iload_n 1, 1), some (.invokestatic 11295, 3), none, none, some (.ifCond .eq 14, 3), none, none, some (.iload_n 2, 1), some (.iconst 0, 1), some (.sipush 999, 3), none, none, some (.invokestatic 12863, 3), none, none, some (.ifCond .ne 6, 3)],
  [none, none, some (.bipush (-2), 2), none, some (.ireturn, 1), some (.aload_n 0, 1), some (.getfield 704, 3), none, none, some (.getfield 391, 3), none, none, some (.iload_n 1, 1), some (.iaload, 1), some (.istore_n 3, 1), some (.aload_n 0, 1)],
  [some (.getfield 704, 3), none, none, some (.getfield 391, 3), none, none, some (.iload_n 1, 1), some (.iload_n 2, 1), some (.iastore, 1), some (.iload_n 3, 1), some (.ireturn, 1)]])
def mc_X11_byRight : am_M := (99, false, [
  [some (.iload_n 1, 1), some (.invokestatic 12319, 3), none, none, some (.ifCond .eq 17, 3), none, none, some (.iload_n 2, 1), some (.invokestatic 11551, 3), none, none, some (.ifCond .eq 10, 3), none, none, some (.iload_n 3, 1), some (.invokestatic 11039, 3)],
  [none, none, some (.ifCond .ne 6, 3), none, none, some (.bipush (-2), 2), none, some (.ireturn, 1), some (.aload_n 0, 1), some (.getfield 707, 3), none, none, some (.aload_n 0, 1), some (.getfield 707, 3), none, none],
  [some (.iload_n 1, 1), some (.invokevirtual 45857, 3), none, none, some (.iload_n 2, 1), some (.iload_n 3, 1), some (.invokevirtual 47681, 3), none, none, some (.ireturn, 1)]])
def mc_X11_cell : am_M := (99, false, [
  [some (.iload_n 1, 1), some (.invokestatic 12063, 3), none, none, some (.ifCond .ne 6, 3), none, none, some (.bipush (-2), 2), none, some (.ireturn, 1), some (.aload_n 0, 1), some (.getfield 713, 3), none, none, some (.iload_n 1, 1), some (.aaload, 1)],
  [some (.astore 4, 2), none, some (.aload 4, 2), none, some (.invokevirtual 3866, 3), none, none, some (.ifCond .eq 6, 3), none, none, some (.bipush (-11), 2), none, some (.ireturn, 1), some (.iload_n 2, 1), some (.iconst 0, 1), some (.aload 4, 2)],
  [none, some (.getfield 641, 3), none, none, some (.iconst 1, 1), some (.isub, 1), some (.invokestatic 12863, 3), none, none, some (.ifCond .ne 6, 3), none, none, some (.bipush (-12), 2), none, some (.ireturn, 1), some (.aload 4, 2)],
  [none, some (.iload_n 2, 1), some (.iload_n 3, 1), some (.invokevirtual 4154, 3), none, none, some (.iconst 1, 1), some (.ireturn, 1)]])
def mc_X11_changed : am_M := (99, false, [
  [some (.iload_n 1, 1), some (.invokestatic 11295, 3), none, none, some (.ifCond .eq 19, 3), none, none, some (.iload_n 2, 1), some (.invokestatic 11039, 3), none, none, some (.ifCond .eq 12, 3), none, none, some (.iload_n 3, 1), some (.iconst 0, 1)],
  [some (.iconst 1, 1), some (.invokestatic 12863, 3), none, none, some (.ifCond .ne 6, 3), none, none, some (.bipush (-2), 2), none, some (.ireturn, 1), some (.aload_n 0, 1), some (.getfield 707, 3), none, none, some (.iload_n 1, 1), some (.iload_n 2, 1)],
  [some (.iload_n 3, 1), some (.invokevirtual 44865, 3), none, none, some (.ireturn, 1)]])
def mc_X11_clash : am_M := (99, false, [
  [some (.iload_n 1, 1), some (.iconst 0, 1), some (.aload_n 0, 1), some (.getfield 710, 3), none, none, some (.getfield 195, 3), none, none, some (.iconst 1, 1), some (.isub, 1), some (.invokestatic 12863, 3), none, none, some (.ifCond .eq 20, 3), none],
  [none, some (.iload_n 2, 1), some (.iconst 0, 1), some (.aload_n 0, 1), some (.getfield 710, 3), none, none, some (.getfield 195, 3), none, none, some (.iconst 1, 1), some (.isub, 1), some (.invokestatic 12863, 3), none, none, some (.ifCond .ne 6, 3)],
  [none, none, some (.bipush (-2), 2), none, some (.ireturn, 1), some (.iload_n 1, 1), some (.iload_n 2, 1), some (.if_icmp .ne 8, 3), none, none, some (.bipush (-2), 2), none, some (.goto 15, 3), none, none, some (.aload_n 0, 1)],
  [some (.getfield 710, 3), none, none, some (.getfield 193, 3), none, none, some (.iload_n 1, 1), some (.iload_n 2, 1), some (.invokestatic 16959, 3), none, none, some (.ireturn, 1)]])
def mc_X11_clause : am_M := (99, false, [
  [some (.iload_n 1, 1), some (.iconst 0, 1), some (.ldc_w 16777215, 3), none, none, some (.invokestatic 12863, 3), none, none, some (.ifCond .ne 6, 3), none, none, some (.bipush (-2), 2), none, some (.ireturn, 1), some (.aload_n 0, 1), some (.getfield 711, 3)],
  [none, none, some (.getfield 3, 3), none, none, some (.bipush 8, 2), none, some (.if_icmp .lt 8, 3), none, none, some (.bipush (-4), 2), none, some (.goto 11, 3), none, none, some (.aload_n 0, 1)],
  [some (.getfield 711, 3), none, none, some (.iload_n 1, 1), some (.invokevirtual 1568, 3), none, none, some (.ireturn, 1)]])
def mc_X11_copy : am_M := (99, false, [
  [some (.iload_n 1, 1), some (.invokestatic 12063, 3), none, none, some (.ifCond .eq 10, 3), none, none, some (.iload_n 3, 1), some (.invokestatic 12063, 3), none, none, some (.ifCond .ne 6, 3), none, none, some (.bipush (-2), 2), none],
  [some (.ireturn, 1), some (.aload_n 0, 1), some (.getfield 713, 3), none, none, some (.iload_n 1, 1), some (.aaload, 1), some (.astore 6, 2), none, some (.aload_n 0, 1), some (.getfield 713, 3), none, none, some (.iload_n 3, 1), some (.aaload, 1), some (.astore 7, 2)],
  [none, some (.aload 6, 2), none, some (.invokevirtual 3866, 3), none, none, some (.ifCond .ne 11, 3), none, none, some (.aload 7, 2), none, some (.invokevirtual 3866, 3), none, none, some (.ifCond .eq 6, 3), none],
  [none, some (.bipush (-11), 2), none, some (.ireturn, 1), some (.aload 6, 2), none, some (.getfield 640, 3), none, none, some (.aload 7, 2), none, some (.getfield 640, 3), none, none, some (.if_icmp .eq 6, 3), none],
  [none, some (.bipush (-13), 2), none, some (.ireturn, 1), some (.aload 6, 2), none, some (.iload_n 2, 1), some (.iload 5, 2), none, some (.invokevirtual 3386, 3), none, none, some (.ifCond .eq 15, 3), none, none, some (.aload 7, 2)],
  [none, some (.iload 4, 2), none, some (.iload 5, 2), none, some (.invokevirtual 3386, 3), none, none, some (.ifCond .ne 6, 3), none, none, some (.bipush (-12), 2), none, some (.ireturn, 1), some (.aload 6, 2), none],
  [some (.getfield 642, 3), none, none, some (.iload_n 2, 1), some (.aload 7, 2), none, some (.getfield 642, 3), none, none, some (.iload 4, 2), none, some (.iload 5, 2), none, some (.invokedynamic 0, 3), none, none],
  [some (.iload 5, 2), none, some (.ireturn, 1)]])
def mc_X11_council : am_M := (99, false, [
  [some (.iload_n 1, 1), some (.invokestatic 11295, 3), none, none, some (.ifCond .eq 14, 3), none, none, some (.iload_n 2, 1), some (.iconst 0, 1), some (.sipush 999, 3), none, none, some (.invokestatic 12863, 3), none, none, some (.ifCond .ne 6, 3)],
  [none, none, some (.bipush (-2), 2), none, some (.ireturn, 1), some (.iload_n 3, 1), some (.iconst 1, 1), some (.sipush 999, 3), none, none, some (.invokestatic 12863, 3), none, none, some (.ifCond .eq 11, 3), none, none],
  [some (.iload 4, 2), none, some (.invokestatic 11039, 3), none, none, some (.ifCond .ne 6, 3), none, none, some (.bipush (-2), 2), none, some (.ireturn, 1), some (.aload_n 0, 1), some (.getfield 704, 3), none, none, some (.aload_n 0, 1)],
  [some (.getfield 704, 3), none, none, some (.iload_n 1, 1), some (.iload_n 2, 1), some (.invokevirtual 55862, 3), none, none, some (.aload_n 0, 1), some (.getfield 704, 3), none, none, some (.iload 4, 2), none, some (.invokevirtual 54054, 3), none],
  [none, some (.iload_n 3, 1), some (.invokevirtual 53830, 3), none, none, some (.ireturn, 1)]])
def mc_X11_count : am_M := (99, false, [
  [some (.iload_n 1, 1), some (.tableswitch 153 0 10 #[59, 67, 75, 83, 91, 99, 107, 115, 123, 133, 143], 59), none, none, none, none, none, none, none, none, none, none, none, none, none, none],
  [none, none, none, none, none, none, none, none, none, none, none, none, none, none, none, none],
  [none, none, none, none, none, none, none, none, none, none, none, none, none, none, none, none],
  [none, none, none, none, none, none, none, none, none, none, none, none, some (.aload_n 0, 1), some (.getfield 705, 3), none, none],
  [some (.getfield 449, 3), none, none, some (.ireturn, 1), some (.aload_n 0, 1), some (.getfield 706, 3), none, none, some (.getfield 135, 3), none, none, some (.ireturn, 1), some (.aload_n 0, 1), some (.getfield 704, 3), none, none],
  [some (.getfield 389, 3), none, none, some (.ireturn, 1), some (.aload_n 0, 1), some (.getfield 708, 3), none, none, some (.getfield 580, 3), none, none, some (.ireturn, 1), some (.aload_n 0, 1), some (.getfield 710, 3), none, none],
  [some (.getfield 195, 3), none, none, some (.ireturn, 1), some (.aload_n 0, 1), some (.getfield 711, 3), none, none, some (.getfield 3, 3), none, none, some (.ireturn, 1), some (.aload_n 0, 1), some (.getfield 707, 3), none, none],
  [some (.getfield 69, 3), none, none, some (.ireturn, 1), some (.aload_n 0, 1), some (.getfield 709, 3), none, none, some (.getfield 513, 3), none, none, some (.ireturn, 1), some (.aload_n 0, 1), some (.getfield 707, 3), none, none],
  [some (.getfield 70, 3), none, none, some (.iconst 0, 1), some (.iaload, 1), some (.ireturn, 1), some (.aload_n 0, 1), some (.getfield 707, 3), none, none, some (.getfield 70, 3), none, none, some (.iconst 1, 1), some (.iaload, 1), some (.ireturn, 1)],
  [some (.aload_n 0, 1), some (.getfield 707, 3), none, none, some (.getfield 70, 3), none, none, some (.iconst 2, 1), some (.iaload, 1), some (.ireturn, 1), some (.bipush (-2), 2), none, some (.ireturn, 1)]])
def mc_X11_crossed : am_M := (99, false, [
  [some (.aload_n 0, 1), some (.iload_n 1, 1), some (.invokevirtual 10539, 3), none, none, some (.ifCond .eq 16, 3), none, none, some (.aload_n 0, 1), some (.iload_n 2, 1), some (.invokevirtual 10539, 3), none, none, some (.ifCond .eq 8, 3), none, none],
  [some (.iload_n 1, 1), some (.iload_n 2, 1), some (.if_icmp .ne 6, 3), none, none, some (.bipush (-2), 2), none, some (.ireturn, 1), some (.aload_n 0, 1), some (.getfield 707, 3), none, none, some (.iload_n 1, 1), some (.iload_n 2, 1), some (.invokevirtual 46641, 3), none],
  [none, some (.ifCond .ne 15, 3), none, none, some (.aload_n 0, 1), some (.getfield 707, 3), none, none, some (.iload_n 2, 1), some (.iload_n 1, 1), some (.invokevirtual 46641, 3), none, none, some (.ifCond .eq 7, 3), none, none],
  [some (.iconst 0, 1), some (.goto 4, 3), none, none, some (.iconst 1, 1), some (.ireturn, 1)]])
def mc_X11_elector : am_M := (99, false, [
  [some (.iload_n 1, 1), some (.iconst 0, 1), some (.sipush 999, 3), none, none, some (.invokestatic 12863, 3), none, none, some (.ifCond .eq 12, 3), none, none, some (.iload_n 2, 1), some (.iconst 0, 1), some (.iconst 1, 1), some (.invokestatic 12863, 3), none],
  [none, some (.ifCond .ne 6, 3), none, none, some (.bipush (-2), 2), none, some (.ireturn, 1), some (.aload_n 0, 1), some (.getfield 710, 3), none, none, some (.getfield 195, 3), none, none, some (.bipush 10, 2), none],
  [some (.if_icmp .lt 8, 3), none, none, some (.bipush (-4), 2), none, some (.goto 12, 3), none, none, some (.aload_n 0, 1), some (.getfield 710, 3), none, none, some (.iload_n 1, 1), some (.iload_n 2, 1), some (.invokevirtual 50483, 3), none],
  [none, some (.ireturn, 1)]])
def mc_X11_far : am_M := (99, false, [
  [some (.iload_n 1, 1), some (.invokestatic 11295, 3), none, none, some (.ifCond .eq 24, 3), none, none, some (.iload_n 2, 1), some (.invokestatic 11295, 3), none, none, some (.ifCond .eq 17, 3), none, none, some (.aload_n 0, 1), some (.getfield 704, 3)],
  [none, none, some (.getfield 385, 3), none, none, some (.iload_n 1, 1), some (.aaload, 1), some (.iload_n 2, 1), some (.iaload, 1), some (.goto 5, 3), none, none, some (.bipush (-2), 2), none, some (.ireturn, 1)]])
def mc_X11_feed : am_M := (99, false, [
  [some (.iload_n 1, 1), some (.iconst 1, 1), some (.bipush 8, 2), none, some (.invokestatic 12863, 3), none, none, some (.ifCond .ne 6, 3), none, none, some (.bipush (-2), 2), none, some (.ireturn, 1), some (.aload_n 0, 1), some (.getfield 709, 3), none],
  [none, some (.getfield 513, 3), none, none, some (.iload_n 1, 1), some (.iadd, 1), some (.sipush 160, 3), none, none, some (.if_icmp .le 6, 3), none, none, some (.bipush (-4), 2), none, some (.ireturn, 1), some (.aload_n 0, 1)],
  [some (.getfield 709, 3), none, none, some (.iload_n 1, 1), some (.lload_n 2, 1), some (.invokevirtual 56632, 3), none, none, some (.aload_n 0, 1), some (.getfield 709, 3), none, none, some (.getfield 513, 3), none, none, some (.ireturn, 1)]])
def mc_X11_felled : am_M := (99, false, [
  [some (.iload_n 1, 1), some (.invokestatic 12319, 3), none, none, some (.ifCond .eq 11, 3), none, none, some (.aload_n 0, 1), some (.iload_n 2, 1), some (.invokevirtual 10539, 3), none, none, some (.ifCond .ne 6, 3), none, none, some (.bipush (-2), 2)],
  [none, some (.ireturn, 1), some (.aload_n 0, 1), some (.getfield 707, 3), none, none, some (.iload_n 1, 1), some (.iconst 0, 1), some (.invokevirtual 48177, 3), none, none, some (.istore_n 3, 1), some (.aload_n 0, 1), some (.getfield 707, 3), none, none],
  [some (.iload_n 1, 1), some (.iconst 1, 1), some (.invokevirtual 48177, 3), none, none, some (.istore 4, 2), none, some (.aload_n 0, 1), some (.getfield 707, 3), none, none, some (.iload_n 3, 1), some (.iload 4, 2), none, some (.invokevirtual 45617, 3), none],
  [none, some (.aload_n 0, 1), some (.getfield 707, 3), none, none, some (.iload_n 3, 1), some (.iconst 1, 1), some (.iload_n 2, 1), some (.ishl, 1), some (.iconst (-1), 1), some (.ixor, 1), some (.iand, 1), some (.iload 4, 2), none, some (.invokevirtual 45617, 3), none],
  [none, some (.iconst (-1), 1), some (.ixor, 1), some (.iand, 1), some (.ireturn, 1)]])
def mc_X11_goTogether : am_M := (99, true, [
  [some (.iconst 0, 1), some (.istore_n 2, 1), some (.iload_n 2, 1), some (.aload_n 0, 1), some (.arraylength, 1), some (.if_icmp .ge 27, 3), none, none, some (.iload_n 1, 1), some (.iload_n 2, 1), some (.invokestatic 9775, 3), none, none, some (.ifCond .eq 13, 3), none, none],
  [some (.aload_n 0, 1), some (.iload_n 2, 1), some (.iaload, 1), some (.iload_n 1, 1), some (.iand, 1), some (.ifCond .eq 5, 3), none, none, some (.iconst 0, 1), some (.ireturn, 1), some (.iinc 2 1, 3), none, none, some (.goto (-27), 3), none, none],
  [some (.iconst 1, 1), some (.ireturn, 1)]])
def mc_X11_hang : am_M := (99, false, [
  [some (.aload_n 0, 1), some (.iload_n 1, 1), some (.invokevirtual 10539, 3), none, none, some (.ifCond .eq 16, 3), none, none, some (.aload_n 0, 1), some (.iload_n 2, 1), some (.invokevirtual 10539, 3), none, none, some (.ifCond .eq 8, 3), none, none],
  [some (.iload_n 1, 1), some (.iload_n 2, 1), some (.if_icmp .ne 6, 3), none, none, some (.bipush (-2), 2), none, some (.ireturn, 1), some (.aload_n 0, 1), some (.getfield 706, 3), none, none, some (.getfield 133, 3), none, none, some (.iload_n 1, 1)],
  [some (.iaload, 1), some (.iload_n 2, 1), some (.invokestatic 9775, 3), none, none, some (.ifCond .eq 6, 3), none, none, some (.bipush (-3), 2), none, some (.ireturn, 1), some (.aload_n 0, 1), some (.getfield 706, 3), none, none, some (.getfield 133, 3)],
  [none, none, some (.iload_n 1, 1), some (.dup2, 1), some (.iaload, 1), some (.iconst 1, 1), some (.iload_n 2, 1), some (.ishl, 1), some (.ior, 1), some (.iastore, 1), some (.aload_n 0, 1), some (.getfield 706, 3), none, none, some (.getfield 133, 3), none],
  [none, some (.iload_n 1, 1), some (.iaload, 1), some (.invokestatic 287, 3), none, none, some (.ireturn, 1)]])
def mc_X11_has : am_M := (99, true, [
  [some (.iload_n 0, 1), some (.iload_n 1, 1), some (.ishr, 1), some (.iconst 1, 1), some (.iand, 1), some (.ifCond .eq 7, 3), none, none, some (.iconst 1, 1), some (.goto 4, 3), none, none, some (.iconst 0, 1), some (.ireturn, 1)]])
def mc_X11_inForce : am_M := (99, false, [
  [some (.iload_n 1, 1), some (.invokestatic 12319, 3), none, none, some (.ifCond .eq 10, 3), none, none, some (.iload_n 2, 1), some (.invokestatic 11039, 3), none, none, some (.ifCond .ne 6, 3), none, none, some (.bipush (-2), 2), none],
  [some (.ireturn, 1), some (.aload_n 0, 1), some (.getfield 707, 3), none, none, some (.aload_n 0, 1), some (.getfield 707, 3), none, none, some (.iload_n 1, 1), some (.invokevirtual 45857, 3), none, none, some (.iload_n 2, 1), some (.invokevirtual 45361, 3), none],
  [none, some (.ireturn, 1)]])
def mc_X11_init : am_M := (11, false, [
  [some (.aload_n 0, 1), some (.invokespecial 31, 3), none, none, some (.aload_n 0, 1), some (.new 6, 3), none, none, some (.dup, 1), some (.invokespecial 54303, 3), none, none, some (.putfield 704, 3), none, none, some (.aload_n 0, 1)],
  [some (.new 7, 3), none, none, some (.dup, 1), some (.invokespecial 56095, 3), none, none, some (.putfield 705, 3), none, none, some (.aload_n 0, 1), some (.new 2, 3), none, none, some (.dup, 1), some (.invokespecial 49183, 3)],
  [none, none, some (.putfield 706, 3), none, none, some (.aload_n 0, 1), some (.new 1, 3), none, none, some (.dup, 1), some (.aload_n 0, 1), some (.getfield 704, 3), none, none, some (.aload_n 0, 1), some (.getfield 705, 3)],
  [none, none, some (.aload_n 0, 1), some (.getfield 706, 3), none, none, some (.invokespecial 46415, 3), none, none, some (.putfield 707, 3), none, none, some (.aload_n 0, 1), some (.new 9, 3), none, none],
  [some (.dup, 1), some (.invokespecial 63263, 3), none, none, some (.putfield 708, 3), none, none, some (.aload_n 0, 1), some (.new 8, 3), none, none, some (.dup, 1), some (.invokespecial 58399, 3), none, none, some (.putfield 709, 3)],
  [none, none, some (.aload_n 0, 1), some (.new 3, 3), none, none, some (.dup, 1), some (.invokespecial 50975, 3), none, none, some (.putfield 710, 3), none, none, some (.aload_n 0, 1), some (.new 0, 3), none],
  [none, some (.dup, 1), some (.invokespecial 1823, 3), none, none, some (.putfield 711, 3), none, none, some (.aload_n 0, 1), some (.new 4, 3), none, none, some (.dup, 1), some (.aload_n 0, 1), some (.getfield 704, 3), none],
  [none, some (.invokespecial 51759, 3), none, none, some (.putfield 712, 3), none, none, some (.aload_n 0, 1), some (.iconst 4, 1), some (.anewarray 5, 3), none, none, some (.putfield 713, 3), none, none, some (.iconst 0, 1)],
  [some (.istore_n 1, 1), some (.iload_n 1, 1), some (.iconst 4, 1), some (.if_icmp .ge 22, 3), none, none, some (.aload_n 0, 1), some (.getfield 713, 3), none, none, some (.iload_n 1, 1), some (.new 10, 3), none, none, some (.dup, 1), some (.invokespecial 3615, 3)],
  [none, none, some (.aastore, 1), some (.iinc 1 1, 3), none, none, some (.goto (-21), 3), none, none, some (.return_, 1)]])
def mc_X11_isAct : am_M := (99, true, [
  [some (.iload_n 1, 1), some (.iconst 0, 1), some (.aload_n 0, 1), some (.getfield 706, 3), none, none, some (.getfield 135, 3), none, none, some (.iconst 1, 1), some (.isub, 1), some (.invokestatic 12863, 3), none, none, some (.ireturn, 1)]])
def mc_X11_isClause : am_M := (99, true, [
  [some (.iload_n 1, 1), some (.iconst 0, 1), some (.aload_n 0, 1), some (.getfield 711, 3), none, none, some (.getfield 3, 3), none, none, some (.iconst 1, 1), some (.isub, 1), some (.invokestatic 12863, 3), none, none, some (.ireturn, 1)]])
def mc_X11_isDay : am_M := (99, true, [
  [some (.iload_n 0, 1), some (.iconst 0, 1), some (.sipush 9999, 3), none, none, some (.invokestatic 12863, 3), none, none, some (.ireturn, 1)]])
def mc_X11_isLand : am_M := (99, true, [
  [some (.iload_n 0, 1), some (.iconst 0, 1), some (.bipush 7, 2), none, some (.invokestatic 12863, 3), none, none, some (.ireturn, 1)]])
def mc_X11_isOffice : am_M := (99, true, [
  [some (.iload_n 0, 1), some (.iconst 0, 1), some (.iconst 5, 1), some (.invokestatic 12863, 3), none, none, some (.ireturn, 1)]])
def mc_X11_isPerson : am_M := (99, true, [
  [some (.iload_n 1, 1), some (.iconst 0, 1), some (.aload_n 0, 1), some (.getfield 705, 3), none, none, some (.getfield 449, 3), none, none, some (.iconst 1, 1), some (.isub, 1), some (.invokestatic 12863, 3), none, none, some (.ireturn, 1)]])
def mc_X11_isSheet : am_M := (99, true, [
  [some (.iload_n 0, 1), some (.iconst 0, 1), some (.iconst 3, 1), some (.invokestatic 12863, 3), none, none, some (.ireturn, 1)]])
def mc_X11_isSide : am_M := (99, true, [
  [some (.iload_n 0, 1), some (.iconst 0, 1), some (.iconst 2, 1), some (.invokestatic 12863, 3), none, none, some (.ireturn, 1)]])
def mc_X11_isUnder : am_M := (99, true, [
  [some (.iload_n 0, 1), some (.istore_n 2, 1), some (.iconst 0, 1), some (.istore_n 3, 1), some (.iload_n 3, 1), some (.bipush 6, 2), none, some (.if_icmp .ge 24, 3), none, none, some (.iload_n 2, 1), some (.iload_n 1, 1), some (.if_icmp .eq 19, 3), none, none, some (.iload_n 2, 1)],
  [some (.ifCond .lt 15, 3), none, none, some (.getstatic 0, 3), none, none, some (.iload_n 2, 1), some (.iaload, 1), some (.istore_n 2, 1), some (.iinc 3 1, 3), none, none, some (.goto (-24), 3), none, none, some (.iload_n 2, 1)],
  [some (.iload_n 1, 1), some (.if_icmp .ne 7, 3), none, none, some (.iconst 1, 1), some (.goto 4, 3), none, none, some (.iconst 0, 1), some (.ireturn, 1)]])
def mc_X11_isWithin : am_M := (99, true, [
  [some (.iload_n 0, 1), some (.iload_n 1, 1), some (.if_icmp .lt 12, 3), none, none, some (.iload_n 0, 1), some (.iload_n 2, 1), some (.if_icmp .gt 7, 3), none, none, some (.iconst 1, 1), some (.goto 4, 3), none, none, some (.iconst 0, 1), some (.ireturn, 1)]])
def mc_X11_journey : am_M := (99, false, [
  [some (.iload_n 1, 1), some (.invokestatic 11295, 3), none, none, some (.ifCond .eq 14, 3), none, none, some (.iload_n 2, 1), some (.iconst 0, 1), some (.sipush 255, 3), none, none, some (.invokestatic 12863, 3), none, none, some (.ifCond .ne 6, 3)],
  [none, none, some (.bipush (-2), 2), none, some (.ireturn, 1), some (.aload_n 0, 1), some (.getfield 712, 3), none, none, some (.iload_n 1, 1), some (.iload_n 2, 1), some (.iconst 1, 1), some (.iload_n 1, 1), some (.ishl, 1), some (.iconst (-1), 1), some (.ixor, 1)],
  [some (.iand, 1), some (.invokevirtual 52532, 3), none, none, some (.iload_n 3, 1), some (.iconst (-1), 1), some (.if_icmp .ne 11, 3), none, none, some (.aload_n 0, 1), some (.getfield 712, 3), none, none, some (.getfield 260, 3), none, none],
  [some (.ireturn, 1), some (.iload_n 3, 1), some (.iconst 0, 1), some (.aload_n 0, 1), some (.getfield 712, 3), none, none, some (.getfield 259, 3), none, none, some (.iconst 1, 1), some (.isub, 1), some (.invokestatic 12863, 3), none, none, some (.ifCond .eq 15, 3)],
  [none, none, some (.aload_n 0, 1), some (.getfield 712, 3), none, none, some (.getfield 258, 3), none, none, some (.iload_n 3, 1), some (.iaload, 1), some (.goto 4, 3), none, none, some (.iconst (-1), 1), some (.ireturn, 1)]])
def mc_X11_known : am_M := (99, false, [
  [some (.aload_n 0, 1), some (.iload_n 1, 1), some (.invokevirtual 10539, 3), none, none, some (.ifCond .eq 22, 3), none, none, some (.iload_n 2, 1), some (.invokestatic 11295, 3), none, none, some (.ifCond .eq 15, 3), none, none, some (.aload_n 0, 1)],
  [some (.getfield 707, 3), none, none, some (.iload_n 1, 1), some (.iload_n 2, 1), some (.invokevirtual 46897, 3), none, none, some (.goto 5, 3), none, none, some (.bipush (-2), 2), none, some (.ireturn, 1)]])
def mc_X11_lift : am_M := (99, false, [
  [some (.aload_n 0, 1), some (.iload_n 1, 1), some (.invokevirtual 10539, 3), none, none, some (.ifCond .eq 23, 3), none, none, some (.iload_n 2, 1), some (.invokestatic 11039, 3), none, none, some (.ifCond .eq 16, 3), none, none, some (.iload_n 2, 1)],
  [some (.aload_n 0, 1), some (.getfield 706, 3), none, none, some (.getfield 131, 3), none, none, some (.iload_n 1, 1), some (.iaload, 1), some (.if_icmp .ge 6, 3), none, none, some (.bipush (-2), 2), none, some (.ireturn, 1), some (.aload_n 0, 1)],
  [some (.getfield 706, 3), none, none, some (.getfield 128, 3), none, none, some (.iload_n 1, 1), some (.iaload, 1), some (.iconst 4, 1), some (.if_icmp .eq 6, 3), none, none, some (.bipush (-13), 2), none, some (.ireturn, 1), some (.aload_n 0, 1)],
  [some (.getfield 706, 3), none, none, some (.getfield 134, 3), none, none, some (.iload_n 1, 1), some (.iaload, 1), some (.iconst (-1), 1), some (.if_icmp .eq 6, 3), none, none, some (.bipush (-3), 2), none, some (.ireturn, 1), some (.aload_n 0, 1)],
  [some (.getfield 706, 3), none, none, some (.getfield 134, 3), none, none, some (.iload_n 1, 1), some (.iload_n 2, 1), some (.iastore, 1), some (.aload_n 0, 1), some (.getfield 706, 3), none, none, some (.iload_n 1, 1), some (.invokevirtual 49442, 3), none],
  [none, some (.ireturn, 1)]])
def mc_X11_office : am_M := (99, false, [
  [some (.iload_n 1, 1), some (.invokestatic 11551, 3), none, none, some (.ifCond .eq 10, 3), none, none, some (.iload_n 2, 1), some (.invokestatic 11295, 3), none, none, some (.ifCond .ne 6, 3), none, none, some (.bipush (-2), 2), none],
  [some (.ireturn, 1), some (.aload_n 0, 1), some (.getfield 705, 3), none, none, some (.getfield 450, 3), none, none, some (.iload_n 1, 1), some (.iaload, 1), some (.istore_n 3, 1), some (.aload_n 0, 1), some (.getfield 705, 3), none, none, some (.getfield 450, 3)],
  [none, none, some (.iload_n 1, 1), some (.iload_n 2, 1), some (.iastore, 1), some (.iload_n 3, 1), some (.ireturn, 1)]])
def mc_X11_officeTold : am_M := (99, false, [
  [some (.iload_n 1, 1), some (.invokestatic 11551, 3), none, none, some (.ifCond .eq 12, 3), none, none, some (.iload_n 2, 1), some (.iconst 0, 1), some (.iconst 1, 1), some (.invokestatic 12863, 3), none, none, some (.ifCond .ne 6, 3), none, none],
  [some (.bipush (-2), 2), none, some (.ireturn, 1), some (.iload_n 2, 1), some (.ifCond .ne 15, 3), none, none, some (.aload_n 0, 1), some (.getfield 705, 3), none, none, some (.getfield 450, 3), none, none, some (.iload_n 1, 1), some (.iaload, 1)],
  [some (.goto 12, 3), none, none, some (.aload_n 0, 1), some (.getfield 705, 3), none, none, some (.getfield 451, 3), none, none, some (.iload_n 1, 1), some (.iaload, 1), some (.ireturn, 1)]])
def mc_X11_owed : am_M := (99, false, [
  [some (.iload_n 1, 1), some (.invokestatic 12319, 3), none, none, some (.ifCond .eq 16, 3), none, none, some (.iload_n 2, 1), some (.iconst (-1), 1), some (.if_icmp .eq 15, 3), none, none, some (.aload_n 0, 1), some (.iload_n 2, 1), some (.invokevirtual 11819, 3), none],
  [none, some (.ifCond .ne 7, 3), none, none, some (.ldc2_w 13835058055282163712, 3), none, none, some (.lreturn, 1), some (.aload_n 0, 1), some (.getfield 708, 3), none, none, some (.aload_n 0, 1), some (.getfield 707, 3), none, none],
  [some (.aload_n 0, 1), some (.getfield 707, 3), none, none, some (.iload_n 1, 1), some (.invokevirtual 45857, 3), none, none, some (.iload_n 2, 1), some (.invokevirtual 63561, 3), none, none, some (.lreturn, 1)]])
def mc_X11_pay : am_M := (99, false, [
  [some (.iload_n 1, 1), some (.invokestatic 11551, 3), none, none, some (.ifCond .eq 11, 3), none, none, some (.aload_n 0, 1), some (.iload_n 2, 1), some (.invokevirtual 11819, 3), none, none, some (.ifCond .ne 6, 3), none, none, some (.bipush (-2), 2)],
  [none, some (.ireturn, 1), some (.iload_n 3, 1), some (.iconst 1, 1), some (.sipush 9999, 3), none, none, some (.invokestatic 12863, 3), none, none, some (.ifCond .eq 11, 3), none, none, some (.iload 4, 2), none, some (.invokestatic 11039, 3)],
  [none, none, some (.ifCond .ne 6, 3), none, none, some (.bipush (-2), 2), none, some (.ireturn, 1), some (.aload_n 0, 1), some (.getfield 708, 3), none, none, some (.getfield 580, 3), none, none, some (.bipush 30, 2)],
  [none, some (.if_icmp .lt 8, 3), none, none, some (.bipush (-4), 2), none, some (.goto 15, 3), none, none, some (.aload_n 0, 1), some (.getfield 708, 3), none, none, some (.iload_n 1, 1), some (.iload_n 2, 1), some (.iload_n 3, 1)],
  [some (.iload 4, 2), none, some (.invokevirtual 63065, 3), none, none, some (.ireturn, 1)]])
def mc_X11_person : am_M := (99, false, [
  [some (.iload_n 1, 1), some (.invokestatic 11295, 3), none, none, some (.ifCond .ne 6, 3), none, none, some (.bipush (-2), 2), none, some (.ireturn, 1), some (.aload_n 0, 1), some (.getfield 705, 3), none, none, some (.getfield 449, 3), none],
  [none, some (.bipush 12, 2), none, some (.if_icmp .lt 6, 3), none, none, some (.bipush (-4), 2), none, some (.ireturn, 1), some (.aload_n 0, 1), some (.getfield 705, 3), none, none, some (.getfield 448, 3), none, none],
  [some (.aload_n 0, 1), some (.getfield 705, 3), none, none, some (.getfield 449, 3), none, none, some (.iload_n 1, 1), some (.iastore, 1), some (.aload_n 0, 1), some (.getfield 705, 3), none, none, some (.dup, 1), some (.getfield 449, 3), none],
  [none, some (.dup_x1, 1), some (.iconst 1, 1), some (.iadd, 1), some (.putfield 449, 3), none, none, some (.ireturn, 1)]])
def mc_X11_quarrels : am_M := (99, false, [
  [some (.iload_n 1, 1), some (.invokestatic 11039, 3), none, none, some (.ifCond .ne 6, 3), none, none, some (.bipush (-2), 2), none, some (.ireturn, 1), some (.aload_n 0, 1), some (.getfield 707, 3), none, none, some (.iconst 0, 1), some (.invokevirtual 45857, 3)],
  [none, none, some (.istore_n 2, 1), some (.aload_n 0, 1), some (.getfield 707, 3), none, none, some (.iconst 1, 1), some (.invokevirtual 45857, 3), none, none, some (.istore_n 3, 1), some (.iconst 0, 1), some (.istore 4, 2), none, some (.iconst 0, 1)],
  [some (.istore 5, 2), none, some (.iload 5, 2), none, some (.bipush 6, 2), none, some (.if_icmp .ge 59, 3), none, none, some (.aload_n 0, 1), some (.getfield 707, 3), none, none, some (.iload_n 2, 1), some (.iload 5, 2), none],
  [some (.iload_n 1, 1), some (.invokevirtual 47681, 3), none, none, some (.aload_n 0, 1), some (.getfield 707, 3), none, none, some (.iload_n 3, 1), some (.iload 5, 2), none, some (.iload_n 1, 1), some (.invokevirtual 47681, 3), none, none, some (.if_icmp .ne 7, 3)],
  [none, none, some (.iconst 1, 1), some (.goto 4, 3), none, none, some (.iconst 0, 1), some (.istore 6, 2), none, some (.iload 4, 2), none, some (.iload 6, 2), none, some (.ifCond .eq 7, 3), none, none],
  [some (.iconst 0, 1), some (.goto 7, 3), none, none, some (.iconst 1, 1), some (.iload 5, 2), none, some (.ishl, 1), some (.ior, 1), some (.istore 4, 2), none, some (.iinc 5 1, 3), none, none, some (.goto (-60), 3), none],
  [none, some (.iload 4, 2), none, some (.ireturn, 1)]])
def mc_X11_road : am_M := (99, false, [
  [some (.iload_n 1, 1), some (.invokestatic 11295, 3), none, none, some (.ifCond .eq 15, 3), none, none, some (.iload_n 2, 1), some (.invokestatic 11295, 3), none, none, some (.ifCond .eq 8, 3), none, none, some (.iload_n 1, 1), some (.iload_n 2, 1)],
  [some (.if_icmp .ne 6, 3), none, none, some (.bipush (-2), 2), none, some (.ireturn, 1), some (.iload_n 3, 1), some (.sipush 999, 3), none, none, some (.if_icmp .eq 16, 3), none, none, some (.iload_n 3, 1), some (.iconst 1, 1), some (.bipush 99, 2)],
  [none, some (.invokestatic 12863, 3), none, none, some (.ifCond .ne 6, 3), none, none, some (.bipush (-2), 2), none, some (.ireturn, 1), some (.aload_n 0, 1), some (.getfield 704, 3), none, none, some (.getfield 384, 3), none],
  [none, some (.iload_n 1, 1), some (.aaload, 1), some (.iload_n 2, 1), some (.iaload, 1), some (.istore 4, 2), none, some (.aload_n 0, 1), some (.getfield 704, 3), none, none, some (.iload_n 1, 1), some (.iload_n 2, 1), some (.iload_n 3, 1), some (.invokevirtual 54598, 3), none],
  [none, some (.iload 4, 2), none, some (.ireturn, 1)]])
def mc_X11_rule : am_M := (99, false, [
  [some (.iload_n 1, 1), some (.invokestatic 12319, 3), none, none, some (.ifCond .eq 20, 3), none, none, some (.iload_n 2, 1), some (.iconst 0, 1), some (.aload_n 0, 1), some (.getfield 707, 3), none, none, some (.getfield 69, 3), none, none],
  [some (.iconst 1, 1), some (.isub, 1), some (.invokestatic 12863, 3), none, none, some (.ifCond .ne 6, 3), none, none, some (.bipush (-2), 2), none, some (.ireturn, 1), some (.aload_n 0, 1), some (.getfield 707, 3), none, none, some (.getfield 70, 3)],
  [none, none, some (.iload_n 1, 1), some (.iaload, 1), some (.istore_n 3, 1), some (.aload_n 0, 1), some (.getfield 707, 3), none, none, some (.getfield 70, 3), none, none, some (.iload_n 1, 1), some (.iload_n 2, 1), some (.iastore, 1), some (.iload_n 3, 1)],
  [some (.ireturn, 1)]])
def mc_X11_says : am_M := (99, false, [
  [some (.iload_n 1, 1), some (.invokestatic 12319, 3), none, none, some (.ifCond .eq 20, 3), none, none, some (.aload_n 0, 1), some (.iload_n 2, 1), some (.invokevirtual 10539, 3), none, none, some (.ifCond .eq 12, 3), none, none, some (.iload_n 3, 1)],
  [some (.iconst 0, 1), some (.iconst 1, 1), some (.invokestatic 12863, 3), none, none, some (.ifCond .ne 7, 3), none, none, some (.ldc2_w 13835058055282163712, 3), none, none, some (.lreturn, 1), some (.aload_n 0, 1), some (.getfield 707, 3), none, none],
  [some (.iload_n 1, 1), some (.iload_n 2, 1), some (.iload_n 3, 1), some (.invokevirtual 48705, 3), none, none, some (.i2l, 1), some (.lreturn, 1)]])
def mc_X11_seat : am_M := (99, false, [
  [some (.iload_n 1, 1), some (.invokestatic 11551, 3), none, none, some (.ifCond .eq 16, 3), none, none, some (.iload_n 2, 1), some (.iconst (-1), 1), some (.if_icmp .eq 14, 3), none, none, some (.aload_n 0, 1), some (.iload_n 2, 1), some (.invokevirtual 11819, 3), none],
  [none, some (.ifCond .ne 6, 3), none, none, some (.bipush (-5), 2), none, some (.ireturn, 1), some (.aload_n 0, 1), some (.getfield 705, 3), none, none, some (.getfield 451, 3), none, none, some (.iload_n 1, 1), some (.iaload, 1)],
  [some (.istore_n 3, 1), some (.aload_n 0, 1), some (.getfield 705, 3), none, none, some (.getfield 451, 3), none, none, some (.iload_n 1, 1), some (.iload_n 2, 1), some (.iastore, 1), some (.iload_n 3, 1), some (.ireturn, 1)]])
def mc_X11_seats : am_M := (99, false, [
  [some (.iload_n 1, 1), some (.invokestatic 11295, 3), none, none, some (.ifCond .eq 13, 3), none, none, some (.iload_n 2, 1), some (.iconst 0, 1), some (.bipush 99, 2), none, some (.invokestatic 12863, 3), none, none, some (.ifCond .ne 6, 3), none],
  [none, some (.bipush (-2), 2), none, some (.ireturn, 1), some (.aload_n 0, 1), some (.getfield 704, 3), none, none, some (.getfield 390, 3), none, none, some (.iload_n 1, 1), some (.iaload, 1), some (.istore_n 3, 1), some (.aload_n 0, 1), some (.getfield 704, 3)],
  [none, none, some (.getfield 390, 3), none, none, some (.iload_n 1, 1), some (.iload_n 2, 1), some (.iastore, 1), some (.iload_n 3, 1), some (.ireturn, 1)]])
def mc_X11_seatsRow : am_M := (99, false, [
  [some (.iload_n 1, 1), some (.invokestatic 12063, 3), none, none, some (.ifCond .eq 23, 3), none, none, some (.iload_n 2, 1), some (.iconst 0, 1), some (.iconst 2, 1), some (.invokestatic 12863, 3), none, none, some (.ifCond .eq 14, 3), none, none],
  [some (.iload 4, 2), none, some (.iconst 0, 1), some (.bipush 8, 2), none, some (.invokestatic 12863, 3), none, none, some (.ifCond .ne 6, 3), none, none, some (.bipush (-2), 2), none, some (.ireturn, 1), some (.aload_n 0, 1), some (.getfield 713, 3)],
  [none, none, some (.iload_n 1, 1), some (.aaload, 1), some (.astore 5, 2), none, some (.aload 5, 2), none, some (.invokevirtual 3866, 3), none, none, some (.ifCond .eq 6, 3), none, none, some (.bipush (-11), 2), none],
  [some (.ireturn, 1), some (.aload 5, 2), none, some (.getfield 640, 3), none, none, some (.iload_n 2, 1), some (.if_icmp .eq 6, 3), none, none, some (.bipush (-13), 2), none, some (.ireturn, 1), some (.iconst 0, 1), some (.istore 6, 2), none],
  [some (.iconst 0, 1), some (.istore 7, 2), none, some (.iload 7, 2), none, some (.iload 4, 2), none, some (.if_icmp .ge 63, 3), none, none, some (.aload 5, 2), none, some (.iload_n 3, 1), some (.iload 7, 2), none, some (.iconst 1, 1)],
  [some (.iadd, 1), some (.invokevirtual 3386, 3), none, none, some (.ifCond .ne 6, 3), none, none, some (.bipush (-12), 2), none, some (.ireturn, 1), some (.aload 5, 2), none, some (.getfield 642, 3), none, none, some (.iload_n 3, 1)],
  [some (.iload 7, 2), none, some (.iadd, 1), some (.iaload, 1), some (.istore 8, 2), none, some (.iload 8, 2), none, some (.iconst 0, 1), some (.bipush 99, 2), none, some (.invokestatic 12863, 3), none, none, some (.ifCond .eq 18, 3), none],
  [none, some (.aload_n 0, 1), some (.getfield 704, 3), none, none, some (.getfield 390, 3), none, none, some (.iload 7, 2), none, some (.iload 8, 2), none, some (.iastore, 1), some (.iinc 6 1, 3), none, none],
  [some (.iinc 7 1, 3), none, none, some (.goto (-64), 3), none, none, some (.iload 6, 2), none, some (.ireturn, 1)]])
def mc_X11_setApart : am_M := (99, false, [
  [some (.aload_n 0, 1), some (.iload_n 1, 1), some (.iaload, 1), some (.iload_n 2, 1), some (.invokestatic 9775, 3), none, none, some (.ifCond .eq 5, 3), none, none, some (.iconst 0, 1), some (.ireturn, 1), some (.aload_n 0, 1), some (.iload_n 1, 1), some (.dup2, 1), some (.iaload, 1)],
  [some (.iconst 1, 1), some (.iload_n 2, 1), some (.ishl, 1), some (.ior, 1), some (.iastore, 1), some (.aload_n 0, 1), some (.iload_n 2, 1), some (.dup2, 1), some (.iaload, 1), some (.iconst 1, 1), some (.iload_n 1, 1), some (.ishl, 1), some (.ior, 1), some (.iastore, 1), some (.iconst 1, 1), some (.ireturn, 1)]])
def mc_X11_settling : am_M := (99, false, [
  [some (.iload_n 1, 1), some (.iconst 0, 1), some (.bipush 8, 2), none, some (.invokestatic 12863, 3), none, none, some (.ifCond .eq 12, 3), none, none, some (.iload_n 2, 1), some (.iconst 0, 1), some (.iconst 2, 1), some (.invokestatic 12863, 3), none, none],
  [some (.ifCond .ne 6, 3), none, none, some (.bipush (-2), 2), none, some (.ireturn, 1), some (.aload_n 0, 1), some (.getfield 707, 3), none, none, some (.iconst 2, 1), some (.invokevirtual 45857, 3), none, none, some (.istore_n 3, 1), some (.aload_n 0, 1)],
  [some (.getfield 711, 3), none, none, some (.iload_n 1, 1), some (.iload_n 3, 1), some (.invokevirtual 2352, 3), none, none, some (.istore 4, 2), none, some (.iload_n 2, 1), some (.ifCond .ne 6, 3), none, none, some (.iload 4, 2), none],
  [some (.ireturn, 1), some (.iload_n 2, 1), some (.iconst 1, 1), some (.if_icmp .ne 16, 3), none, none, some (.aload_n 0, 1), some (.getfield 711, 3), none, none, some (.iload 4, 2), none, some (.iload_n 3, 1), some (.invokevirtual 2864, 3), none, none],
  [some (.goto 12, 3), none, none, some (.aload_n 0, 1), some (.getfield 711, 3), none, none, some (.iload 4, 2), none, some (.invokevirtual 2592, 3), none, none, some (.ireturn, 1)]])
def mc_X11_sheet : am_M := (99, false, [
  [some (.iload_n 1, 1), some (.invokestatic 12063, 3), none, none, some (.ifCond .eq 12, 3), none, none, some (.iload_n 2, 1), some (.iconst (-1), 1), some (.iconst 2, 1), some (.invokestatic 12863, 3), none, none, some (.ifCond .ne 6, 3), none, none],
  [some (.bipush (-2), 2), none, some (.ireturn, 1), some (.iload_n 2, 1), some (.iconst (-1), 1), some (.if_icmp .ne 16, 3), none, none, some (.aload_n 0, 1), some (.getfield 713, 3), none, none, some (.iload_n 1, 1), some (.aaload, 1), some (.iconst (-1), 1), some (.iconst 0, 1)],
  [some (.invokevirtual 3130, 3), none, none, some (.iconst 1, 1), some (.ireturn, 1), some (.iload_n 3, 1), some (.bipush 40, 2), none, some (.if_icmp .le 6, 3), none, none, some (.bipush (-2), 2), none, some (.ireturn, 1), some (.iload_n 3, 1), some (.ifCond .ge 6, 3)],
  [none, none, some (.bipush (-14), 2), none, some (.ireturn, 1), some (.aload_n 0, 1), some (.getfield 713, 3), none, none, some (.iload_n 1, 1), some (.aaload, 1), some (.iload_n 2, 1), some (.iload_n 3, 1), some (.invokevirtual 3130, 3), none, none],
  [some (.iconst 1, 1), some (.ireturn, 1)]])
def mc_X11_side : am_M := (99, false, [
  [some (.iload_n 1, 1), some (.invokestatic 11295, 3), none, none, some (.ifCond .eq 22, 3), none, none, some (.iload_n 2, 1), some (.invokestatic 11039, 3), none, none, some (.ifCond .eq 15, 3), none, none, some (.aload_n 0, 1), some (.getfield 704, 3)],
  [none, none, some (.iload_n 1, 1), some (.iload_n 2, 1), some (.invokevirtual 55350, 3), none, none, some (.goto 5, 3), none, none, some (.bipush (-2), 2), none, some (.ireturn, 1)]])
def mc_X11_sumOver : am_M := (99, false, [
  [some (.iconst 0, 1), some (.istore_n 2, 1), some (.iconst 0, 1), some (.istore_n 3, 1), some (.iload_n 3, 1), some (.aload_n 0, 1), some (.arraylength, 1), some (.if_icmp .ge 27, 3), none, none, some (.iload_n 2, 1), some (.iload_n 1, 1), some (.iload_n 3, 1), some (.invokestatic 9775, 3), none, none],
  [some (.ifCond .eq 9, 3), none, none, some (.aload_n 0, 1), some (.iload_n 3, 1), some (.iaload, 1), some (.goto 4, 3), none, none, some (.iconst 0, 1), some (.iadd, 1), some (.istore_n 2, 1), some (.iinc 3 1, 3), none, none, some (.goto (-27), 3)],
  [none, none, some (.iload_n 2, 1), some (.ireturn, 1)]])
def mc_X11_taken : am_M := (99, false, [
  [some (.iload_n 2, 1), some (.iconst 0, 1), some (.iconst 5, 1), some (.invokestatic 12863, 3), none, none, some (.ifCond .ne 6, 3), none, none, some (.bipush (-2), 2), none, some (.ireturn, 1), some (.aload_n 0, 1), some (.iload_n 1, 1), some (.invokevirtual 10539, 3), none],
  [none, some (.ifCond .ne 6, 3), none, none, some (.bipush (-11), 2), none, some (.ireturn, 1), some (.aload_n 0, 1), some (.getfield 706, 3), none, none, some (.getfield 128, 3), none, none, some (.iload_n 1, 1), some (.iaload, 1)],
  [some (.istore_n 3, 1), some (.iload_n 3, 1), some (.iload_n 2, 1), some (.invokestatic 12591, 3), none, none, some (.ifCond .eq 11, 3), none, none, some (.getstatic 1, 3), none, none, some (.iload_n 3, 1), some (.iaload, 1), some (.goto 5, 3), none],
  [none, some (.bipush (-13), 2), none, some (.ireturn, 1)]])
def mc_X11_text : am_M := (99, false, [
  [some (.aload_n 0, 1), some (.getfield 707, 3), none, none, some (.getfield 69, 3), none, none, some (.bipush 6, 2), none, some (.if_icmp .lt 6, 3), none, none, some (.bipush (-4), 2), none, some (.ireturn, 1), some (.aload_n 0, 1)],
  [some (.getfield 709, 3), none, none, some (.invokevirtual 61720, 3), none, none, some (.istore_n 1, 1), some (.iload_n 1, 1), some (.iconst (-1), 1), some (.if_icmp .ne 27, 3), none, none, some (.aload_n 0, 1), some (.getfield 707, 3), none, none],
  [some (.aload_n 0, 1), some (.getfield 709, 3), none, none, some (.getfield 514, 3), none, none, some (.aload_n 0, 1), some (.getfield 709, 3), none, none, some (.getfield 515, 3), none, none, some (.invokevirtual 44593, 3), none],
  [none, some (.goto 7, 3), none, none, some (.bipush (-100), 2), none, some (.iload_n 1, 1), some (.isub, 1), some (.ireturn, 1)]])
def mc_X11_turn : am_M := (99, false, [
  [some (.iload_n 1, 1), some (.invokestatic 11295, 3), none, none, some (.ifCond .eq 19, 3), none, none, some (.iload_n 2, 1), some (.invokestatic 11039, 3), none, none, some (.ifCond .eq 12, 3), none, none, some (.iload_n 3, 1), some (.iconst 0, 1)],
  [some (.iconst 1, 1), some (.invokestatic 12863, 3), none, none, some (.ifCond .ne 6, 3), none, none, some (.bipush (-2), 2), none, some (.ireturn, 1), some (.aload_n 0, 1), some (.getfield 704, 3), none, none, some (.getfield 389, 3), none],
  [none, some (.bipush 30, 2), none, some (.if_icmp .lt 8, 3), none, none, some (.bipush (-4), 2), none, some (.goto 13, 3), none, none, some (.aload_n 0, 1), some (.getfield 704, 3), none, none, some (.iload_n 1, 1)],
  [some (.iload_n 2, 1), some (.iload_n 3, 1), some (.invokevirtual 53574, 3), none, none, some (.ireturn, 1)]])
def mc_X11_worth : am_M := (99, false, [
  [some (.aload_n 0, 1), some (.iload_n 1, 1), some (.invokevirtual 10795, 3), none, none, some (.ifCond .eq 21, 3), none, none, some (.iload_n 2, 1), some (.invokestatic 11295, 3), none, none, some (.ifCond .eq 14, 3), none, none, some (.iload_n 3, 1)],
  [some (.bipush (-99), 2), none, some (.bipush 99, 2), none, some (.invokestatic 12863, 3), none, none, some (.ifCond .ne 7, 3), none, none, some (.sipush (-1000), 3), none, none, some (.ireturn, 1), some (.aload_n 0, 1), some (.getfield 711, 3)],
  [none, none, some (.getfield 2, 3), none, none, some (.iload_n 2, 1), some (.aaload, 1), some (.iload_n 1, 1), some (.iaload, 1), some (.istore 4, 2), none, some (.aload_n 0, 1), some (.getfield 711, 3), none, none, some (.getfield 2, 3)],
  [none, none, some (.iload_n 2, 1), some (.aaload, 1), some (.iload_n 1, 1), some (.iload_n 3, 1), some (.iastore, 1), some (.iload 4, 2), none, some (.ireturn, 1)]])
def mc_X12_act : am_M := (99, false, [
  [some (.aload_n 0, 1), some (.iload_n 1, 1), some (.iconst 0, 1), some (.iconst 5, 1), some (.invokevirtual 26956, 3), none, none, some (.ifCond .eq 52, 3), none, none, some (.aload_n 0, 1), some (.iload_n 2, 1), some (.invokevirtual 30252, 3), none, none, some (.ifCond .eq 44, 3)],
  [none, none, some (.aload_n 0, 1), some (.iload_n 3, 1), some (.iconst 0, 1), some (.iload_n 1, 1), some (.iconst 1, 1), some (.if_icmp .ne 8, 3), none, none, some (.bipush 71, 2), none, some (.goto 5, 3), none, none, some (.bipush 99, 2)],
  [none, some (.invokevirtual 26956, 3), none, none, some (.ifCond .eq 23, 3), none, none, some (.aload_n 0, 1), some (.iload 4, 2), none, some (.invokevirtual 28460, 3), none, none, some (.ifCond .eq 14, 3), none, none],
  [some (.aload_n 0, 1), some (.iload 5, 2), none, some (.iconst 0, 1), some (.iconst 1, 1), some (.invokevirtual 26956, 3), none, none, some (.ifCond .ne 6, 3), none, none, some (.bipush (-2), 2), none, some (.ireturn, 1), some (.iload_n 1, 1), some (.iconst 1, 1)],
  [some (.if_icmp .ne 17, 3), none, none, some (.aload_n 0, 1), some (.iload_n 3, 1), some (.bipush 12, 2), none, some (.irem, 1), some (.invokevirtual 30252, 3), none, none, some (.ifCond .ne 6, 3), none, none, some (.bipush (-2), 2), none],
  [some (.ireturn, 1), some (.aload_n 0, 1), some (.getfield 778, 3), none, none, some (.bipush 24, 2), none, some (.if_icmp .ne 6, 3), none, none, some (.bipush (-4), 2), none, some (.ireturn, 1), some (.aload_n 0, 1), some (.getfield 779, 3), none],
  [none, some (.aload_n 0, 1), some (.getfield 778, 3), none, none, some (.iload_n 1, 1), some (.iastore, 1), some (.aload_n 0, 1), some (.getfield 780, 3), none, none, some (.aload_n 0, 1), some (.getfield 778, 3), none, none, some (.iload_n 2, 1)],
  [some (.iastore, 1), some (.aload_n 0, 1), some (.getfield 781, 3), none, none, some (.aload_n 0, 1), some (.getfield 778, 3), none, none, some (.iload_n 3, 1), some (.iastore, 1), some (.aload_n 0, 1), some (.getfield 782, 3), none, none, some (.aload_n 0, 1)],
  [some (.getfield 778, 3), none, none, some (.iload 4, 2), none, some (.iastore, 1), some (.aload_n 0, 1), some (.getfield 783, 3), none, none, some (.aload_n 0, 1), some (.getfield 778, 3), none, none, some (.iload 5, 2), none],
  [some (.iastore, 1), some (.aload_n 0, 1), some (.getfield 784, 3), none, none, some (.aload_n 0, 1), some (.getfield 778, 3), none, none, some (.iconst 0, 1), some (.iastore, 1), some (.aload_n 0, 1), some (.getfield 785, 3), none, none, some (.aload_n 0, 1)],
  [some (.getfield 778, 3), none, none, some (.iconst (-1), 1), some (.iastore, 1), some (.aload_n 0, 1), some (.dup, 1), some (.getfield 778, 3), none, none, some (.iconst 1, 1), some (.iadd, 1), some (.putfield 778, 3), none, none, some (.aload_n 0, 1)],
  [some (.getfield 778, 3), none, none, some (.iconst 1, 1), some (.isub, 1), some (.ireturn, 1)]])
def mc_X12_actTold : am_M := (99, false, [
  [some (.aload_n 0, 1), some (.iload_n 1, 1), some (.invokevirtual 27692, 3), none, none, some (.ifCond .ne 6, 3), none, none, some (.bipush (-2), 2), none, some (.ireturn, 1), some (.iload_n 2, 1), some (.tableswitch 102 0 7 #[48, 55, 62, 69, 76, 83, 89, 95], 48), none, none, none],
  [none, none, none, none, none, none, none, none, none, none, none, none, none, none, none, none],
  [none, none, none, none, none, none, none, none, none, none, none, none, none, none, none, none],
  [none, none, none, none, none, none, none, none, none, none, none, none, some (.aload_n 0, 1), some (.getfield 779, 3), none, none],
  [some (.iload_n 1, 1), some (.iaload, 1), some (.ireturn, 1), some (.aload_n 0, 1), some (.getfield 780, 3), none, none, some (.iload_n 1, 1), some (.iaload, 1), some (.ireturn, 1), some (.aload_n 0, 1), some (.getfield 781, 3), none, none, some (.iload_n 1, 1), some (.iaload, 1)],
  [some (.ireturn, 1), some (.aload_n 0, 1), some (.getfield 782, 3), none, none, some (.iload_n 1, 1), some (.iaload, 1), some (.ireturn, 1), some (.aload_n 0, 1), some (.getfield 783, 3), none, none, some (.iload_n 1, 1), some (.iaload, 1), some (.ireturn, 1), some (.aload_n 0, 1)],
  [some (.iload_n 1, 1), some (.invokevirtual 37676, 3), none, none, some (.ireturn, 1), some (.aload_n 0, 1), some (.iload_n 1, 1), some (.invokevirtual 33324, 3), none, none, some (.ireturn, 1), some (.aload_n 0, 1), some (.getfield 784, 3), none, none, some (.iload_n 1, 1)],
  [some (.iaload, 1), some (.ireturn, 1), some (.bipush (-2), 2), none, some (.ireturn, 1)]])
def mc_X12_acts : am_M := (99, false, [
  [some (.aload_n 0, 1), some (.iload_n 1, 1), some (.invokevirtual 30764, 3), none, none, some (.ifCond .eq 13, 3), none, none, some (.aload_n 0, 1), some (.iload_n 2, 1), some (.iconst 0, 1), some (.iconst 3, 1), some (.invokevirtual 26956, 3), none, none, some (.ifCond .ne 6, 3)],
  [none, none, some (.bipush (-2), 2), none, some (.ireturn, 1), some (.aload_n 0, 1), some (.iload_n 1, 1), some (.invokevirtual 42028, 3), none, none, some (.istore_n 3, 1), some (.aload_n 0, 1), some (.iload_n 1, 1), some (.invokevirtual 38956, 3), none, none],
  [some (.istore 4, 2), none, some (.iload_n 2, 1), some (.ifCond .ne 5, 3), none, none, some (.iload_n 3, 1), some (.ireturn, 1), some (.aload_n 0, 1), some (.iload_n 3, 1), some (.iload 4, 2), none, some (.invokevirtual 26172, 3), none, none, some (.istore 5, 2)],
  [none, some (.aload_n 0, 1), some (.iload_n 3, 1), some (.iload 4, 2), none, some (.invokevirtual 25404, 3), none, none, some (.istore 6, 2), none, some (.iload_n 2, 1), some (.iconst 1, 1), some (.if_icmp .ne 8, 3), none, none, some (.iload 5, 2)],
  [none, some (.goto 20, 3), none, none, some (.iload_n 2, 1), some (.iconst 2, 1), some (.if_icmp .ne 8, 3), none, none, some (.iload 6, 2), none, some (.goto 10, 3), none, none, some (.iload 5, 2), none],
  [some (.iload 6, 2), none, some (.iconst (-1), 1), some (.ixor, 1), some (.iand, 1), some (.ireturn, 1)]])
def mc_X12_against : am_M := (99, false, [
  [some (.aload_n 0, 1), some (.iload_n 1, 1), some (.invokevirtual 28204, 3), none, none, some (.ifCond .eq 16, 3), none, none, some (.aload_n 0, 1), some (.iload_n 2, 1), some (.invokevirtual 28204, 3), none, none, some (.ifCond .eq 8, 3), none, none],
  [some (.iload_n 1, 1), some (.iload_n 2, 1), some (.if_icmp .ne 6, 3), none, none, some (.bipush (-2), 2), none, some (.ireturn, 1), some (.aload_n 0, 1), some (.getfield 817, 3), none, none, some (.iload_n 1, 1), some (.iaload, 1), some (.iload_n 2, 1), some (.ishr, 1)],
  [some (.iconst 1, 1), some (.iand, 1), some (.iconst 1, 1), some (.if_icmp .ne 7, 3), none, none, some (.iconst 0, 1), some (.goto 4, 3), none, none, some (.iconst 1, 1), some (.istore_n 3, 1), some (.aload_n 0, 1), some (.getfield 817, 3), none, none],
  [some (.iload_n 1, 1), some (.dup2, 1), some (.iaload, 1), some (.iconst 1, 1), some (.iload_n 2, 1), some (.ishl, 1), some (.ior, 1), some (.iastore, 1), some (.aload_n 0, 1), some (.getfield 817, 3), none, none, some (.iload_n 2, 1), some (.dup2, 1), some (.iaload, 1), some (.iconst 1, 1)],
  [some (.iload_n 1, 1), some (.ishl, 1), some (.ior, 1), some (.iastore, 1), some (.iload_n 3, 1), some (.ireturn, 1)]])
def mc_X12_ahead : am_M := (99, true, [
  [some (.aload_n 0, 1), some (.getfield 793, 3), none, none, some (.iconst 1, 1), some (.if_icmp .eq 11, 3), none, none, some (.aload_n 0, 1), some (.getfield 793, 3), none, none, some (.iconst 2, 1), some (.if_icmp .ne 5, 3), none, none],
  [some (.iconst 1, 1), some (.ireturn, 1), some (.aload_n 0, 1), some (.getfield 800, 3), none, none, some (.iconst 5, 1), some (.if_icmp .ne 5, 3), none, none, some (.iconst 0, 1), some (.ireturn, 1), some (.aload_n 0, 1), some (.iconst 4, 1), some (.invokevirtual 28972, 3), none],
  [none, some (.ifCond .eq 5, 3), none, none, some (.iload_n 1, 1), some (.ireturn, 1), some (.aload_n 0, 1), some (.bipush 40, 2), none, some (.invokevirtual 31020, 3), none, none, some (.ifCond .ne 12, 3), none, none, some (.aload_n 0, 1)],
  [some (.bipush 45, 2), none, some (.invokevirtual 31020, 3), none, none, some (.ifCond .eq 7, 3), none, none, some (.iconst 1, 1), some (.goto 4, 3), none, none, some (.iconst 0, 1), some (.ireturn, 1)]])
def mc_X12_ask : am_M := (99, false, [
  [some (.aload_n 0, 1), some (.getfield 802, 3), none, none, some (.iconst 0, 1), some (.aload_n 0, 1), some (.getfield 779, 3), none, none, some (.iload_n 2, 1), some (.iaload, 1), some (.iastore, 1), some (.aload_n 0, 1), some (.getfield 802, 3), none, none],
  [some (.iconst 1, 1), some (.aload_n 0, 1), some (.getfield 782, 3), none, none, some (.iload_n 2, 1), some (.iaload, 1), some (.iastore, 1), some (.aload_n 0, 1), some (.getfield 802, 3), none, none, some (.iconst 2, 1), some (.aload_n 0, 1), some (.iload_n 2, 1), some (.invokevirtual 37676, 3)],
  [none, none, some (.iastore, 1), some (.aload_n 0, 1), some (.getfield 802, 3), none, none, some (.iconst 3, 1), some (.iload_n 1, 1), some (.iconst 2, 1), some (.if_icmp .eq 28, 3), none, none, some (.aload_n 0, 1), some (.aload_n 0, 1), some (.getfield 772, 3)],
  [none, none, some (.aload_n 0, 1), some (.getfield 780, 3), none, none, some (.iload_n 2, 1), some (.iaload, 1), some (.iaload, 1), some (.aload_n 0, 1), some (.getfield 782, 3), none, none, some (.iload_n 2, 1), some (.iaload, 1), some (.invokevirtual 41532, 3)],
  [none, none, some (.iload_n 1, 1), some (.if_icmp .ne 7, 3), none, none, some (.iconst 1, 1), some (.goto 4, 3), none, none, some (.iconst 0, 1), some (.iastore, 1), some (.aload_n 0, 1), some (.getfield 802, 3), none, none],
  [some (.iconst 4, 1), some (.aload_n 0, 1), some (.aload_n 0, 1), some (.getfield 784, 3), none, none, some (.iload_n 2, 1), some (.iaload, 1), some (.invokevirtual 35372, 3), none, none, some (.iastore, 1), some (.aload_n 0, 1), some (.getfield 802, 3), none, none],
  [some (.iconst 5, 1), some (.aload_n 0, 1), some (.getfield 783, 3), none, none, some (.iload_n 2, 1), some (.iaload, 1), some (.iastore, 1), some (.aload_n 0, 1), some (.aload_n 0, 1), some (.getfield 789, 3), none, none, some (.iload_n 1, 1), some (.iaload, 1), some (.iload_n 3, 1)],
  [some (.invokevirtual 44092, 3), none, none, some (.ireturn, 1)]])
def mc_X12_both : am_M := (99, false, [
  [some (.iload_n 1, 1), some (.tableswitch 101 (-7) (-1) #[97, 93, 82, 71, 101, 57, 43], 43), none, none, none, none, none, none, none, none, none, none, none, none, none, none],
  [none, none, none, none, none, none, none, none, none, none, none, none, none, none, none, none],
  [none, none, none, none, none, none, none, none, none, none, none, none, some (.iload_n 2, 1), some (.ifCond .ne 7, 3), none, none],
  [some (.iload_n 3, 1), some (.ifCond .eq 7, 3), none, none, some (.iconst 1, 1), some (.goto 4, 3), none, none, some (.iconst 0, 1), some (.ireturn, 1), some (.iload_n 2, 1), some (.ifCond .eq 11, 3), none, none, some (.iload_n 3, 1), some (.ifCond .eq 7, 3)],
  [none, none, some (.iconst 1, 1), some (.goto 4, 3), none, none, some (.iconst 0, 1), some (.ireturn, 1), some (.iload_n 2, 1), some (.iload_n 3, 1), some (.if_icmp .ge 7, 3), none, none, some (.iconst 1, 1), some (.goto 4, 3), none],
  [none, some (.iconst 0, 1), some (.ireturn, 1), some (.iload_n 2, 1), some (.iload_n 3, 1), some (.if_icmp .ne 7, 3), none, none, some (.iconst 1, 1), some (.goto 4, 3), none, none, some (.iconst 0, 1), some (.ireturn, 1), some (.iload_n 2, 1), some (.iload_n 3, 1)],
  [some (.iadd, 1), some (.ireturn, 1), some (.iload_n 2, 1), some (.iload_n 3, 1), some (.isub, 1), some (.ireturn, 1), some (.iload_n 2, 1), some (.iload_n 3, 1), some (.imul, 1), some (.ireturn, 1)]])
def mc_X12_bought : am_M := (99, false, [
  [some (.aload_n 0, 1), some (.iload_n 1, 1), some (.iconst 0, 1), some (.iconst 1, 1), some (.invokevirtual 26956, 3), none, none, some (.ifCond .ne 6, 3), none, none, some (.bipush (-2), 2), none, some (.ireturn, 1), some (.iconst (-1), 1), some (.istore_n 2, 1), some (.iconst 0, 1)],
  [some (.istore_n 3, 1), some (.iload_n 3, 1), some (.iconst 1, 1), some (.aload_n 0, 1), some (.getfield 809, 3), none, none, some (.ishl, 1), some (.if_icmp .ge 65, 3), none, none, some (.aload_n 0, 1), some (.iload_n 3, 1), some (.invokevirtual 21804, 3), none, none],
  [some (.ifCond .ne 6, 3), none, none, some (.goto 48, 3), none, none, some (.iload_n 2, 1), some (.ifCond .lt 42, 3), none, none, some (.aload_n 0, 1), some (.iload_n 3, 1), some (.invokevirtual 36652, 3), none, none, some (.aload_n 0, 1)],
  [some (.iload_n 2, 1), some (.invokevirtual 36652, 3), none, none, some (.if_icmp .lt 29, 3), none, none, some (.aload_n 0, 1), some (.iload_n 3, 1), some (.invokevirtual 36652, 3), none, none, some (.aload_n 0, 1), some (.iload_n 2, 1), some (.invokevirtual 36652, 3), none],
  [none, some (.if_icmp .ne 18, 3), none, none, some (.aload_n 0, 1), some (.iload_n 3, 1), some (.invokevirtual 35372, 3), none, none, some (.aload_n 0, 1), some (.iload_n 2, 1), some (.invokevirtual 35372, 3), none, none, some (.if_icmp .ge 5, 3), none],
  [none, some (.iload_n 3, 1), some (.istore_n 2, 1), some (.iinc 3 1, 3), none, none, some (.goto (-69), 3), none, none, some (.iload_n 2, 1), some (.ifCond .ge 7, 3), none, none, some (.iconst (-1), 1), some (.goto 16, 3), none],
  [none, some (.iload_n 1, 1), some (.ifCond .ne 7, 3), none, none, some (.iload_n 2, 1), some (.goto 8, 3), none, none, some (.aload_n 0, 1), some (.iload_n 2, 1), some (.invokevirtual 36652, 3), none, none, some (.ireturn, 1)]])
def mc_X12_bound : am_M := (99, false, [
  [some (.aload_n 0, 1), some (.iload_n 1, 1), some (.invokevirtual 29228, 3), none, none, some (.ifCond .eq 15, 3), none, none, some (.aload_n 0, 1), some (.iload_n 2, 1), some (.iconst 0, 1), some (.sipush 999, 3), none, none, some (.invokevirtual 26956, 3), none],
  [none, some (.ifCond .ne 6, 3), none, none, some (.bipush (-2), 2), none, some (.ireturn, 1), some (.aload_n 0, 1), some (.getfield 818, 3), none, none, some (.iload_n 1, 1), some (.iaload, 1), some (.istore_n 3, 1), some (.aload_n 0, 1), some (.getfield 818, 3)],
  [none, none, some (.iload_n 1, 1), some (.iload_n 2, 1), some (.iastore, 1), some (.iload_n 3, 1), some (.ireturn, 1)]])
def mc_X12_byRight : am_M := (99, false, [
  [some (.aload_n 0, 1), some (.iload_n 1, 1), some (.invokevirtual 30764, 3), none, none, some (.ifCond .eq 19, 3), none, none, some (.aload_n 0, 1), some (.iload_n 2, 1), some (.invokevirtual 29740, 3), none, none, some (.ifCond .eq 11, 3), none, none],
  [some (.aload_n 0, 1), some (.iload_n 3, 1), some (.invokevirtual 28460, 3), none, none, some (.ifCond .ne 6, 3), none, none, some (.bipush (-2), 2), none, some (.ireturn, 1), some (.aload_n 0, 1), some (.iload_n 2, 1), some (.iload_n 3, 1), some (.aload_n 0, 1), some (.iload_n 1, 1)],
  [some (.invokevirtual 25900, 3), none, none, some (.invokevirtual 37964, 3), none, none, some (.ireturn, 1)]])
def mc_X12_canBuy : am_M := (99, true, [
  [some (.aload_n 0, 1), some (.iload_n 1, 1), some (.invokevirtual 35372, 3), none, none, some (.istore_n 2, 1), some (.iconst 0, 1), some (.istore_n 3, 1), some (.iload_n 3, 1), some (.aload_n 0, 1), some (.getfield 809, 3), none, none, some (.if_icmp .ge 50, 3), none, none],
  [some (.iload_n 2, 1), some (.aload_n 0, 1), some (.getfield 811, 3), none, none, some (.iload_n 3, 1), some (.iaload, 1), some (.iadd, 1), some (.istore_n 2, 1), some (.iload_n 1, 1), some (.iload_n 3, 1), some (.ishr, 1), some (.iconst 1, 1), some (.iand, 1), some (.iconst 1, 1), some (.if_icmp .ne 26, 3)],
  [none, none, some (.aload_n 0, 1), some (.getfield 811, 3), none, none, some (.iload_n 3, 1), some (.iaload, 1), some (.iconst 1, 1), some (.if_icmp .eq 14, 3), none, none, some (.aload_n 0, 1), some (.getfield 812, 3), none, none],
  [some (.iload_n 3, 1), some (.iaload, 1), some (.iload_n 1, 1), some (.iand, 1), some (.ifCond .eq 5, 3), none, none, some (.iconst 0, 1), some (.ireturn, 1), some (.iinc 3 1, 3), none, none, some (.goto (-52), 3), none, none, some (.iconst 2, 1)],
  [some (.iload_n 2, 1), some (.imul, 1), some (.aload_n 0, 1), some (.getfield 809, 3), none, none, some (.if_icmp .le 7, 3), none, none, some (.iconst 1, 1), some (.goto 4, 3), none, none, some (.iconst 0, 1), some (.ireturn, 1)]])
def mc_X12_cell : am_M := (99, false, [
  [some (.aload_n 0, 1), some (.iload_n 1, 1), some (.invokevirtual 30508, 3), none, none, some (.ifCond .ne 6, 3), none, none, some (.bipush (-2), 2), none, some (.ireturn, 1), some (.aload_n 0, 1), some (.getfield 823, 3), none, none, some (.iload_n 1, 1)],
  [some (.iaload, 1), some (.ifCond .ge 6, 3), none, none, some (.bipush (-11), 2), none, some (.ireturn, 1), some (.aload_n 0, 1), some (.iload_n 2, 1), some (.iconst 0, 1), some (.aload_n 0, 1), some (.getfield 824, 3), none, none, some (.iload_n 1, 1), some (.iaload, 1)],
  [some (.iconst 1, 1), some (.isub, 1), some (.invokevirtual 26956, 3), none, none, some (.ifCond .ne 6, 3), none, none, some (.bipush (-12), 2), none, some (.ireturn, 1), some (.aload_n 0, 1), some (.getfield 825, 3), none, none, some (.bipush 40, 2)],
  [none, some (.iload_n 1, 1), some (.imul, 1), some (.iload_n 2, 1), some (.iadd, 1), some (.aload_n 0, 1), some (.getfield 823, 3), none, none, some (.iload_n 1, 1), some (.iaload, 1), some (.ifCond .ne 8, 3), none, none, some (.iload_n 3, 1), some (.i2b, 1)],
  [some (.goto 19, 3), none, none, some (.aload_n 0, 1), some (.getfield 823, 3), none, none, some (.iload_n 1, 1), some (.iaload, 1), some (.iconst 1, 1), some (.if_icmp .ne 8, 3), none, none, some (.iload_n 3, 1), some (.i2s, 1), some (.goto 4, 3)],
  [none, none, some (.iload_n 3, 1), some (.iastore, 1), some (.iconst 1, 1), some (.ireturn, 1)]])
def mc_X12_changed : am_M := (99, false, [
  [some (.aload_n 0, 1), some (.iload_n 1, 1), some (.iload_n 2, 1), some (.iload_n 3, 1), some (.invokevirtual 31564, 3), none, none, some (.ifCond .ne 6, 3), none, none, some (.bipush (-2), 2), none, some (.ireturn, 1), some (.aload_n 0, 1), some (.iconst 0, 1), some (.invokevirtual 42028, 3)],
  [none, none, some (.istore 4, 2), none, some (.aload_n 0, 1), some (.iconst 1, 1), some (.invokevirtual 42028, 3), none, none, some (.istore 5, 2), none, some (.aload_n 0, 1), some (.iload_n 1, 1), some (.iload_n 2, 1), some (.iload_n 3, 1), some (.invokevirtual 34636, 3)],
  [none, none, some (.iload 4, 2), none, some (.aload_n 0, 1), some (.iconst 0, 1), some (.invokevirtual 42028, 3), none, none, some (.ixor, 1), some (.iload 5, 2), none, some (.aload_n 0, 1), some (.iconst 1, 1), some (.invokevirtual 42028, 3), none],
  [none, some (.ixor, 1), some (.ior, 1), some (.istore 6, 2), none, some (.aload_n 0, 1), some (.dup, 1), some (.getfield 771, 3), none, none, some (.iconst 1, 1), some (.isub, 1), some (.putfield 771, 3), none, none, some (.iconst 0, 1)],
  [some (.istore 7, 2), none, some (.iconst 0, 1), some (.istore 8, 2), none, some (.iload 8, 2), none, some (.aload_n 0, 1), some (.getfield 778, 3), none, none, some (.if_icmp .ge 37, 3), none, none, some (.aload_n 0, 1), some (.getfield 772, 3)],
  [none, none, some (.aload_n 0, 1), some (.getfield 780, 3), none, none, some (.iload 8, 2), none, some (.iaload, 1), some (.iaload, 1), some (.iload_n 1, 1), some (.if_icmp .ne 15, 3), none, none, some (.iload 7, 2), none],
  [some (.iload 6, 2), none, some (.iconst 1, 1), some (.iload 8, 2), none, some (.ishl, 1), some (.iand, 1), some (.ior, 1), some (.istore 7, 2), none, some (.iinc 8 1, 3), none, none, some (.goto (-40), 3), none, none],
  [some (.iload 7, 2), none, some (.ireturn, 1)]])
def mc_X12_clash : am_M := (99, false, [
  [some (.aload_n 0, 1), some (.iload_n 1, 1), some (.iconst 0, 1), some (.aload_n 0, 1), some (.getfield 809, 3), none, none, some (.iconst 1, 1), some (.isub, 1), some (.invokevirtual 26956, 3), none, none, some (.ifCond .eq 23, 3), none, none, some (.aload_n 0, 1)],
  [some (.iload_n 2, 1), some (.iconst 0, 1), some (.aload_n 0, 1), some (.getfield 809, 3), none, none, some (.iconst 1, 1), some (.isub, 1), some (.invokevirtual 26956, 3), none, none, some (.ifCond .eq 8, 3), none, none, some (.iload_n 1, 1), some (.iload_n 2, 1)],
  [some (.if_icmp .ne 6, 3), none, none, some (.bipush (-2), 2), none, some (.ireturn, 1), some (.aload_n 0, 1), some (.getfield 812, 3), none, none, some (.iload_n 1, 1), some (.iaload, 1), some (.iload_n 2, 1), some (.ishr, 1), some (.iconst 1, 1), some (.iand, 1)],
  [some (.iconst 1, 1), some (.if_icmp .ne 7, 3), none, none, some (.iconst 0, 1), some (.goto 4, 3), none, none, some (.iconst 1, 1), some (.istore_n 3, 1), some (.aload_n 0, 1), some (.getfield 812, 3), none, none, some (.iload_n 1, 1), some (.dup2, 1)],
  [some (.iaload, 1), some (.iconst 1, 1), some (.iload_n 2, 1), some (.ishl, 1), some (.ior, 1), some (.iastore, 1), some (.aload_n 0, 1), some (.getfield 812, 3), none, none, some (.iload_n 2, 1), some (.dup2, 1), some (.iaload, 1), some (.iconst 1, 1), some (.iload_n 1, 1), some (.ishl, 1)],
  [some (.ior, 1), some (.iastore, 1), some (.iload_n 3, 1), some (.ireturn, 1)]])
def mc_X12_clause : am_M := (99, false, [
  [some (.aload_n 0, 1), some (.iload_n 1, 1), some (.iconst 0, 1), some (.ldc_w 16777215, 3), none, none, some (.invokevirtual 26956, 3), none, none, some (.ifCond .ne 6, 3), none, none, some (.bipush (-2), 2), none, some (.ireturn, 1), some (.aload_n 0, 1)],
  [some (.getfield 814, 3), none, none, some (.bipush 8, 2), none, some (.if_icmp .ne 6, 3), none, none, some (.bipush (-4), 2), none, some (.ireturn, 1), some (.aload_n 0, 1), some (.getfield 815, 3), none, none, some (.aload_n 0, 1)],
  [some (.getfield 814, 3), none, none, some (.iload_n 1, 1), some (.iastore, 1), some (.aload_n 0, 1), some (.getfield 817, 3), none, none, some (.aload_n 0, 1), some (.getfield 814, 3), none, none, some (.iconst 0, 1), some (.iastore, 1), some (.aload_n 0, 1)],
  [some (.dup, 1), some (.getfield 814, 3), none, none, some (.iconst 1, 1), some (.iadd, 1), some (.putfield 814, 3), none, none, some (.aload_n 0, 1), some (.getfield 814, 3), none, none, some (.iconst 1, 1), some (.isub, 1), some (.ireturn, 1)]])
def mc_X12_copy : am_M := (99, false, [
  [some (.aload_n 0, 1), some (.iload_n 1, 1), some (.invokevirtual 30508, 3), none, none, some (.ifCond .eq 11, 3), none, none, some (.aload_n 0, 1), some (.iload_n 3, 1), some (.invokevirtual 30508, 3), none, none, some (.ifCond .ne 6, 3), none, none],
  [some (.bipush (-2), 2), none, some (.ireturn, 1), some (.aload_n 0, 1), some (.getfield 823, 3), none, none, some (.iload_n 1, 1), some (.iaload, 1), some (.ifCond .lt 12, 3), none, none, some (.aload_n 0, 1), some (.getfield 823, 3), none, none],
  [some (.iload_n 3, 1), some (.iaload, 1), some (.ifCond .ge 6, 3), none, none, some (.bipush (-11), 2), none, some (.ireturn, 1), some (.aload_n 0, 1), some (.getfield 823, 3), none, none, some (.iload_n 1, 1), some (.iaload, 1), some (.aload_n 0, 1), some (.getfield 823, 3)],
  [none, none, some (.iload_n 3, 1), some (.iaload, 1), some (.if_icmp .eq 6, 3), none, none, some (.bipush (-13), 2), none, some (.ireturn, 1), some (.iload 5, 2), none, some (.ifCond .lt 39, 3), none, none, some (.iload_n 2, 1)],
  [some (.ifCond .lt 35, 3), none, none, some (.iload 4, 2), none, some (.ifCond .lt 30, 3), none, none, some (.iload_n 2, 1), some (.aload_n 0, 1), some (.getfield 824, 3), none, none, some (.iload_n 1, 1), some (.iaload, 1), some (.iload 5, 2)],
  [none, some (.isub, 1), some (.if_icmp .gt 17, 3), none, none, some (.iload 4, 2), none, some (.aload_n 0, 1), some (.getfield 824, 3), none, none, some (.iload_n 3, 1), some (.iaload, 1), some (.iload 5, 2), none, some (.isub, 1)],
  [some (.if_icmp .le 6, 3), none, none, some (.bipush (-12), 2), none, some (.ireturn, 1), some (.iconst 0, 1), some (.istore 6, 2), none, some (.iload 6, 2), none, some (.iload 5, 2), none, some (.if_icmp .ge 30, 3), none, none],
  [some (.aload_n 0, 1), some (.getfield 826, 3), none, none, some (.iload 6, 2), none, some (.aload_n 0, 1), some (.getfield 825, 3), none, none, some (.bipush 40, 2), none, some (.iload_n 1, 1), some (.imul, 1), some (.iload_n 2, 1), some (.iadd, 1)],
  [some (.iload 6, 2), none, some (.iadd, 1), some (.iaload, 1), some (.iastore, 1), some (.iinc 6 1, 3), none, none, some (.goto (-31), 3), none, none, some (.iconst 0, 1), some (.istore 6, 2), none, some (.iload 6, 2), none],
  [some (.iload 5, 2), none, some (.if_icmp .ge 31, 3), none, none, some (.aload_n 0, 1), some (.getfield 825, 3), none, none, some (.bipush 40, 2), none, some (.iload_n 3, 1), some (.imul, 1), some (.iload 4, 2), none, some (.iadd, 1)],
  [some (.iload 6, 2), none, some (.iadd, 1), some (.aload_n 0, 1), some (.getfield 826, 3), none, none, some (.iload 6, 2), none, some (.iaload, 1), some (.iastore, 1), some (.iinc 6 1, 3), none, none, some (.goto (-32), 3), none],
  [none, some (.iload 5, 2), none, some (.ireturn, 1)]])
def mc_X12_council : am_M := (99, false, [
  [some (.aload_n 0, 1), some (.iload_n 1, 1), some (.invokevirtual 29228, 3), none, none, some (.ifCond .eq 36, 3), none, none, some (.aload_n 0, 1), some (.iload_n 2, 1), some (.iconst 0, 1), some (.sipush 999, 3), none, none, some (.invokevirtual 26956, 3), none],
  [none, some (.ifCond .eq 24, 3), none, none, some (.aload_n 0, 1), some (.iload_n 3, 1), some (.iconst 1, 1), some (.sipush 999, 3), none, none, some (.invokevirtual 26956, 3), none, none, some (.ifCond .eq 12, 3), none, none],
  [some (.aload_n 0, 1), some (.iload 4, 2), none, some (.invokevirtual 28460, 3), none, none, some (.ifCond .ne 6, 3), none, none, some (.bipush (-2), 2), none, some (.ireturn, 1), some (.aload_n 0, 1), some (.invokevirtual 25116, 3), none, none],
  [some (.iconst 0, 1), some (.istore 5, 2), none, some (.iconst 0, 1), some (.istore 6, 2), none, some (.iload 6, 2), none, some (.bipush 8, 2), none, some (.if_icmp .ge 56, 3), none, none, some (.iload 5, 2), none, some (.aload_n 0, 1)],
  [some (.getfield 769, 3), none, none, some (.bipush 8, 2), none, some (.iload 6, 2), none, some (.imul, 1), some (.iload_n 1, 1), some (.iadd, 1), some (.iaload, 1), some (.sipush 999, 3), none, none, some (.if_icmp .ge 26, 3), none],
  [none, some (.aload_n 0, 1), some (.getfield 769, 3), none, none, some (.bipush 8, 2), none, some (.iload 6, 2), none, some (.imul, 1), some (.iload_n 1, 1), some (.iadd, 1), some (.iaload, 1), some (.iload_n 2, 1), some (.if_icmp .gt 10, 3), none],
  [none, some (.iconst 1, 1), some (.iload 6, 2), none, some (.ishl, 1), some (.goto 4, 3), none, none, some (.iconst 0, 1), some (.ior, 1), some (.istore 5, 2), none, some (.iinc 6 1, 3), none, none, some (.goto (-57), 3)],
  [none, none, some (.iconst (-1), 1), some (.istore 6, 2), none, some (.iconst 1, 1), some (.istore 7, 2), none, some (.iload 7, 2), none, some (.sipush 256, 3), none, none, some (.if_icmp .ge 125, 3), none, none],
  [some (.iload 7, 2), none, some (.iload 5, 2), none, some (.iconst (-1), 1), some (.ixor, 1), some (.iand, 1), some (.ifCond .ne 109, 3), none, none, some (.aload_n 0, 1), some (.iload 7, 2), none, some (.iconst (-1), 1), some (.iload 4, 2), none],
  [some (.invokevirtual 40012, 3), none, none, some (.iload_n 3, 1), some (.if_icmp .lt 96, 3), none, none, some (.aload_n 0, 1), some (.iload 7, 2), none, some (.iconst 0, 1), some (.iload 4, 2), none, some (.invokevirtual 40012, 3), none, none],
  [some (.iload_n 3, 1), some (.iconst 3, 1), some (.idiv, 1), some (.if_icmp .lt 81, 3), none, none, some (.aload_n 0, 1), some (.iload 7, 2), none, some (.iconst 1, 1), some (.iload 4, 2), none, some (.invokevirtual 40012, 3), none, none, some (.iload_n 3, 1)],
  [some (.iconst 3, 1), some (.idiv, 1), some (.if_icmp .ge 6, 3), none, none, some (.goto 63, 3), none, none, some (.iload 6, 2), none, some (.ifCond .lt 54, 3), none, none, some (.aload_n 0, 1), some (.iload 7, 2), none],
  [some (.invokevirtual 35372, 3), none, none, some (.aload_n 0, 1), some (.iload 6, 2), none, some (.invokevirtual 35372, 3), none, none, some (.if_icmp .lt 39, 3), none, none, some (.aload_n 0, 1), some (.iload 7, 2), none, some (.invokevirtual 35372, 3)],
  [none, none, some (.aload_n 0, 1), some (.iload 6, 2), none, some (.invokevirtual 35372, 3), none, none, some (.if_icmp .ne 28, 3), none, none, some (.aload_n 0, 1), some (.iload 7, 2), none, some (.iconst (-1), 1), some (.iload 4, 2)],
  [none, some (.invokevirtual 40012, 3), none, none, some (.aload_n 0, 1), some (.iload 6, 2), none, some (.iconst (-1), 1), some (.iload 4, 2), none, some (.invokevirtual 40012, 3), none, none, some (.if_icmp .le 7, 3), none, none],
  [some (.iload 7, 2), none, some (.istore 6, 2), none, some (.iinc 7 1, 3), none, none, some (.goto (-127), 3), none, none, some (.iload 6, 2), none, some (.ireturn, 1)]])
def mc_X12_count : am_M := (99, false, [
  [some (.iload_n 1, 1), some (.tableswitch 109 0 10 #[59, 64, 69, 74, 79, 84, 89, 94, 99, 99, 99], 59), none, none, none, none, none, none, none, none, none, none, none, none, none, none],
  [none, none, none, none, none, none, none, none, none, none, none, none, none, none, none, none],
  [none, none, none, none, none, none, none, none, none, none, none, none, none, none, none, none],
  [none, none, none, none, none, none, none, none, none, none, none, none, some (.aload_n 0, 1), some (.getfield 770, 3), none, none],
  [some (.ireturn, 1), some (.aload_n 0, 1), some (.getfield 778, 3), none, none, some (.ireturn, 1), some (.aload_n 0, 1), some (.getfield 771, 3), none, none, some (.ireturn, 1), some (.aload_n 0, 1), some (.getfield 804, 3), none, none, some (.ireturn, 1)],
  [some (.aload_n 0, 1), some (.getfield 809, 3), none, none, some (.ireturn, 1), some (.aload_n 0, 1), some (.getfield 814, 3), none, none, some (.ireturn, 1), some (.aload_n 0, 1), some (.getfield 788, 3), none, none, some (.ireturn, 1), some (.aload_n 0, 1)],
  [some (.getfield 787, 3), none, none, some (.ireturn, 1), some (.aload_n 0, 1), some (.getfield 789, 3), none, none, some (.iload_n 1, 1), some (.bipush 8, 2), none, some (.isub, 1), some (.iaload, 1), some (.ireturn, 1), some (.bipush (-2), 2), none],
  [some (.ireturn, 1)]])
def mc_X12_crossed : am_M := (99, false, [
  [some (.aload_n 0, 1), some (.iload_n 1, 1), some (.invokevirtual 27692, 3), none, none, some (.ifCond .eq 16, 3), none, none, some (.aload_n 0, 1), some (.iload_n 2, 1), some (.invokevirtual 27692, 3), none, none, some (.ifCond .eq 8, 3), none, none],
  [some (.iload_n 1, 1), some (.iload_n 2, 1), some (.if_icmp .ne 6, 3), none, none, some (.bipush (-2), 2), none, some (.ireturn, 1), some (.aload_n 0, 1), some (.invokevirtual 25116, 3), none, none, some (.aload_n 0, 1), some (.iload_n 1, 1), some (.iload_n 2, 1), some (.invokevirtual 32572, 3)],
  [none, none, some (.ifCond .ne 12, 3), none, none, some (.aload_n 0, 1), some (.iload_n 2, 1), some (.iload_n 1, 1), some (.invokevirtual 32572, 3), none, none, some (.ifCond .eq 7, 3), none, none, some (.iconst 0, 1), some (.goto 4, 3)],
  [none, none, some (.iconst 1, 1), some (.ireturn, 1)]])
def mc_X12_elector : am_M := (99, false, [
  [some (.aload_n 0, 1), some (.iload_n 1, 1), some (.iconst 0, 1), some (.sipush 999, 3), none, none, some (.invokevirtual 26956, 3), none, none, some (.ifCond .eq 13, 3), none, none, some (.aload_n 0, 1), some (.iload_n 2, 1), some (.iconst 0, 1), some (.iconst 1, 1)],
  [some (.invokevirtual 26956, 3), none, none, some (.ifCond .ne 6, 3), none, none, some (.bipush (-2), 2), none, some (.ireturn, 1), some (.aload_n 0, 1), some (.getfield 809, 3), none, none, some (.bipush 10, 2), none, some (.if_icmp .ne 6, 3)],
  [none, none, some (.bipush (-4), 2), none, some (.ireturn, 1), some (.aload_n 0, 1), some (.getfield 810, 3), none, none, some (.aload_n 0, 1), some (.getfield 809, 3), none, none, some (.iload_n 1, 1), some (.iastore, 1), some (.aload_n 0, 1)],
  [some (.getfield 811, 3), none, none, some (.aload_n 0, 1), some (.getfield 809, 3), none, none, some (.iload_n 2, 1), some (.iastore, 1), some (.aload_n 0, 1), some (.getfield 812, 3), none, none, some (.aload_n 0, 1), some (.getfield 809, 3), none],
  [none, some (.iconst 0, 1), some (.iastore, 1), some (.aload_n 0, 1), some (.dup, 1), some (.getfield 809, 3), none, none, some (.iconst 1, 1), some (.iadd, 1), some (.putfield 809, 3), none, none, some (.aload_n 0, 1), some (.getfield 809, 3), none],
  [none, some (.iconst 1, 1), some (.isub, 1), some (.ireturn, 1)]])
def mc_X12_far : am_M := (99, false, [
  [some (.aload_n 0, 1), some (.iload_n 1, 1), some (.invokevirtual 29228, 3), none, none, some (.ifCond .eq 11, 3), none, none, some (.aload_n 0, 1), some (.iload_n 2, 1), some (.invokevirtual 29228, 3), none, none, some (.ifCond .ne 6, 3), none, none],
  [some (.bipush (-2), 2), none, some (.ireturn, 1), some (.aload_n 0, 1), some (.invokevirtual 25116, 3), none, none, some (.aload_n 0, 1), some (.getfield 769, 3), none, none, some (.bipush 8, 2), none, some (.iload_n 1, 1), some (.imul, 1), some (.iload_n 2, 1)],
  [some (.iadd, 1), some (.iaload, 1), some (.ireturn, 1)]])
def mc_X12_feed : am_M := (99, false, [
  [some (.aload_n 0, 1), some (.iload_n 1, 1), some (.iconst 1, 1), some (.bipush 8, 2), none, some (.invokevirtual 26956, 3), none, none, some (.ifCond .ne 6, 3), none, none, some (.bipush (-2), 2), none, some (.ireturn, 1), some (.aload_n 0, 1), some (.getfield 787, 3)],
  [none, none, some (.iload_n 1, 1), some (.iadd, 1), some (.sipush 160, 3), none, none, some (.if_icmp .le 6, 3), none, none, some (.bipush (-4), 2), none, some (.ireturn, 1), some (.iconst 0, 1), some (.istore 4, 2), none],
  [some (.iload 4, 2), none, some (.iload_n 1, 1), some (.if_icmp .ge 37, 3), none, none, some (.aload_n 0, 1), some (.getfield 786, 3), none, none, some (.aload_n 0, 1), some (.getfield 787, 3), none, none, some (.lload_n 2, 1), some (.bipush 8, 2)],
  [none, some (.iload 4, 2), none, some (.imul, 1), some (.lshr, 1), some (.l2i, 1), some (.i2b, 1), some (.bastore, 1), some (.aload_n 0, 1), some (.dup, 1), some (.getfield 787, 3), none, none, some (.iconst 1, 1), some (.iadd, 1), some (.putfield 787, 3)],
  [none, none, some (.iinc 4 1, 3), none, none, some (.goto (-37), 3), none, none, some (.aload_n 0, 1), some (.getfield 787, 3), none, none, some (.ireturn, 1)]])
def mc_X12_felled : am_M := (99, false, [
  [some (.aload_n 0, 1), some (.iload_n 1, 1), some (.invokevirtual 30764, 3), none, none, some (.ifCond .eq 11, 3), none, none, some (.aload_n 0, 1), some (.iload_n 2, 1), some (.invokevirtual 27692, 3), none, none, some (.ifCond .ne 6, 3), none, none],
  [some (.bipush (-2), 2), none, some (.ireturn, 1), some (.aload_n 0, 1), some (.iload_n 1, 1), some (.invokevirtual 42028, 3), none, none, some (.istore_n 3, 1), some (.aload_n 0, 1), some (.iload_n 1, 1), some (.invokevirtual 38956, 3), none, none, some (.istore 4, 2), none],
  [some (.aload_n 0, 1), some (.iload_n 3, 1), some (.iload 4, 2), none, some (.invokevirtual 26172, 3), none, none, some (.aload_n 0, 1), some (.iload_n 3, 1), some (.iconst 1, 1), some (.iload_n 2, 1), some (.ishl, 1), some (.iconst (-1), 1), some (.ixor, 1), some (.iand, 1), some (.iload 4, 2)],
  [none, some (.invokevirtual 26172, 3), none, none, some (.iconst (-1), 1), some (.ixor, 1), some (.iand, 1), some (.ireturn, 1)]])
def mc_X12_findFar : am_M := (99, false, [
  [some (.iconst 0, 1), some (.istore_n 1, 1), some (.iload_n 1, 1), some (.bipush 64, 2), none, some (.if_icmp .ge 21, 3), none, none, some (.aload_n 0, 1), some (.getfield 769, 3), none, none, some (.iload_n 1, 1), some (.aload_n 0, 1), some (.getfield 768, 3), none],
  [none, some (.iload_n 1, 1), some (.iaload, 1), some (.iastore, 1), some (.iinc 1 1, 3), none, none, some (.goto (-21), 3), none, none, some (.iconst 0, 1), some (.istore_n 1, 1), some (.iload_n 1, 1), some (.bipush 8, 2), none, some (.if_icmp .ge 91, 3)],
  [none, none, some (.iconst 0, 1), some (.istore_n 2, 1), some (.iload_n 2, 1), some (.bipush 8, 2), none, some (.if_icmp .ge 77, 3), none, none, some (.iconst 0, 1), some (.istore_n 3, 1), some (.iload_n 3, 1), some (.bipush 8, 2), none, some (.if_icmp .ge 63, 3)],
  [none, none, some (.aload_n 0, 1), some (.getfield 769, 3), none, none, some (.bipush 8, 2), none, some (.iload_n 2, 1), some (.imul, 1), some (.iload_n 1, 1), some (.iadd, 1), some (.iaload, 1), some (.aload_n 0, 1), some (.getfield 769, 3), none],
  [none, some (.bipush 8, 2), none, some (.iload_n 1, 1), some (.imul, 1), some (.iload_n 3, 1), some (.iadd, 1), some (.iaload, 1), some (.iadd, 1), some (.istore 4, 2), none, some (.iload 4, 2), none, some (.aload_n 0, 1), some (.getfield 769, 3), none],
  [none, some (.bipush 8, 2), none, some (.iload_n 2, 1), some (.imul, 1), some (.iload_n 3, 1), some (.iadd, 1), some (.iaload, 1), some (.if_icmp .ge 16, 3), none, none, some (.aload_n 0, 1), some (.getfield 769, 3), none, none, some (.bipush 8, 2)],
  [none, some (.iload_n 2, 1), some (.imul, 1), some (.iload_n 3, 1), some (.iadd, 1), some (.iload 4, 2), none, some (.iastore, 1), some (.iinc 3 1, 3), none, none, some (.goto (-63), 3), none, none, some (.iinc 2 1, 3), none],
  [none, some (.goto (-77), 3), none, none, some (.iinc 1 1, 3), none, none, some (.goto (-91), 3), none, none, some (.return_, 1)]])
def mc_X12_firmOf : am_M := (99, false, [
  [some (.iconst 0, 1), some (.istore_n 3, 1), some (.iconst 1, 1), some (.istore 4, 2), none, some (.iload 4, 2), none, some (.ifCond .eq 82, 3), none, none, some (.iconst 0, 1), some (.istore 4, 2), none, some (.iconst 0, 1), some (.istore 5, 2), none],
  [some (.iload 5, 2), none, some (.aload_n 0, 1), some (.getfield 778, 3), none, none, some (.if_icmp .ge 64, 3), none, none, some (.iload_n 3, 1), some (.iload 5, 2), none, some (.ishr, 1), some (.iconst 1, 1), some (.iand, 1), some (.iconst 1, 1)],
  [some (.if_icmp .eq 48, 3), none, none, some (.iload_n 1, 1), some (.iload 5, 2), none, some (.ishr, 1), some (.iconst 1, 1), some (.iand, 1), some (.ifCond .eq 39, 3), none, none, some (.iload_n 2, 1), some (.iload 5, 2), none, some (.ishr, 1)],
  [some (.iconst 1, 1), some (.iand, 1), some (.ifCond .ne 20, 3), none, none, some (.aload_n 0, 1), some (.getfield 784, 3), none, none, some (.iload 5, 2), none, some (.iaload, 1), some (.iload_n 3, 1), some (.iconst (-1), 1), some (.ixor, 1), some (.iand, 1)],
  [some (.ifCond .eq 6, 3), none, none, some (.goto 13, 3), none, none, some (.iload_n 3, 1), some (.iconst 1, 1), some (.iload 5, 2), none, some (.ishl, 1), some (.ior, 1), some (.istore_n 3, 1), some (.iconst 1, 1), some (.istore 4, 2), none],
  [some (.iinc 5 1, 3), none, none, some (.goto (-67), 3), none, none, some (.goto (-81), 3), none, none, some (.iload_n 3, 1), some (.ireturn, 1)]])
def mc_X12_goTogether : am_M := (99, true, [
  [some (.iconst 1, 1), some (.istore_n 2, 1), some (.iconst 0, 1), some (.istore_n 3, 1), some (.iload_n 3, 1), some (.aload_n 0, 1), some (.getfield 814, 3), none, none, some (.if_icmp .ge 38, 3), none, none, some (.iload_n 2, 1), some (.ifCond .eq 26, 3), none, none],
  [some (.iload_n 1, 1), some (.iload_n 3, 1), some (.ishr, 1), some (.iconst 1, 1), some (.iand, 1), some (.ifCond .eq 14, 3), none, none, some (.aload_n 0, 1), some (.getfield 817, 3), none, none, some (.iload_n 3, 1), some (.iaload, 1), some (.iload_n 1, 1), some (.iand, 1)],
  [some (.ifCond .ne 7, 3), none, none, some (.iconst 1, 1), some (.goto 4, 3), none, none, some (.iconst 0, 1), some (.istore_n 2, 1), some (.iinc 3 1, 3), none, none, some (.goto (-40), 3), none, none, some (.iload_n 2, 1)],
  [some (.ireturn, 1)]])
def mc_X12_goodBy : am_M := (99, false, [
  [some (.aload_n 0, 1), some (.aload_n 0, 1), some (.iload_n 1, 1), some (.invokevirtual 42028, 3), none, none, some (.aload_n 0, 1), some (.iload_n 1, 1), some (.invokevirtual 38956, 3), none, none, some (.invokevirtual 26172, 3), none, none, some (.ireturn, 1)]])
def mc_X12_goodOf : am_M := (99, false, [
  [some (.iload_n 1, 1), some (.istore_n 3, 1), some (.iconst 1, 1), some (.istore 4, 2), none, some (.iload 4, 2), none, some (.ifCond .eq 75, 3), none, none, some (.iconst 0, 1), some (.istore 4, 2), none, some (.iconst 0, 1), some (.istore 5, 2), none],
  [some (.iload 5, 2), none, some (.aload_n 0, 1), some (.getfield 778, 3), none, none, some (.if_icmp .ge 57, 3), none, none, some (.iload_n 3, 1), some (.iload 5, 2), none, some (.ishr, 1), some (.iconst 1, 1), some (.iand, 1), some (.ifCond .eq 42, 3)],
  [none, none, some (.iload_n 2, 1), some (.iload 5, 2), none, some (.ishr, 1), some (.iconst 1, 1), some (.iand, 1), some (.iconst 1, 1), some (.if_icmp .eq 32, 3), none, none, some (.aload_n 0, 1), some (.getfield 784, 3), none, none],
  [some (.iload 5, 2), none, some (.iaload, 1), some (.iload_n 3, 1), some (.iconst (-1), 1), some (.ixor, 1), some (.iand, 1), some (.ifCond .ne 6, 3), none, none, some (.goto 15, 3), none, none, some (.iload_n 3, 1), some (.iconst 1, 1), some (.iload 5, 2)],
  [none, some (.ishl, 1), some (.iconst (-1), 1), some (.ixor, 1), some (.iand, 1), some (.istore_n 3, 1), some (.iconst 1, 1), some (.istore 4, 2), none, some (.iinc 5 1, 3), none, none, some (.goto (-60), 3), none, none, some (.goto (-74), 3)],
  [none, none, some (.iload_n 3, 1), some (.ireturn, 1)]])
def mc_X12_hang : am_M := (99, false, [
  [some (.aload_n 0, 1), some (.iload_n 1, 1), some (.invokevirtual 27692, 3), none, none, some (.ifCond .eq 16, 3), none, none, some (.aload_n 0, 1), some (.iload_n 2, 1), some (.invokevirtual 27692, 3), none, none, some (.ifCond .eq 8, 3), none, none],
  [some (.iload_n 1, 1), some (.iload_n 2, 1), some (.if_icmp .ne 6, 3), none, none, some (.bipush (-2), 2), none, some (.ireturn, 1), some (.aload_n 0, 1), some (.getfield 784, 3), none, none, some (.iload_n 1, 1), some (.iaload, 1), some (.iload_n 2, 1), some (.ishr, 1)],
  [some (.iconst 1, 1), some (.iand, 1), some (.iconst 1, 1), some (.if_icmp .ne 6, 3), none, none, some (.bipush (-3), 2), none, some (.ireturn, 1), some (.aload_n 0, 1), some (.getfield 784, 3), none, none, some (.iload_n 1, 1), some (.dup2, 1), some (.iaload, 1)],
  [some (.iconst 1, 1), some (.iload_n 2, 1), some (.ishl, 1), some (.ior, 1), some (.iastore, 1), some (.aload_n 0, 1), some (.aload_n 0, 1), some (.getfield 784, 3), none, none, some (.iload_n 1, 1), some (.iaload, 1), some (.invokevirtual 35372, 3), none, none, some (.ireturn, 1)]])
def mc_X12_hold : am_M := (99, false, [
  [some (.aload_n 0, 1), some (.getfield 796, 3), none, none, some (.aload_n 0, 1), some (.getfield 798, 3), none, none, some (.iload_n 1, 1), some (.iastore, 1), some (.aload_n 0, 1), some (.dup, 1), some (.getfield 798, 3), none, none, some (.iconst 1, 1)],
  [some (.iadd, 1), some (.putfield 798, 3), none, none, some (.iload_n 1, 1), some (.bipush (-3), 2), none, some (.if_icmp .eq 15, 3), none, none, some (.iload_n 1, 1), some (.bipush (-9), 2), none, some (.if_icmp .eq 9, 3), none, none],
  [some (.iload_n 1, 1), some (.bipush (-10), 2), none, some (.if_icmp .ne 13, 3), none, none, some (.aload_n 0, 1), some (.dup, 1), some (.getfield 800, 3), none, none, some (.iconst 1, 1), some (.iadd, 1), some (.putfield 800, 3), none, none],
  [some (.return_, 1)]])
def mc_X12_in : am_M := (99, true, [
  [some (.iload_n 1, 1), some (.iload_n 2, 1), some (.if_icmp .lt 12, 3), none, none, some (.iload_n 1, 1), some (.iload_n 3, 1), some (.if_icmp .gt 7, 3), none, none, some (.iconst 1, 1), some (.goto 4, 3), none, none, some (.iconst 0, 1), some (.ireturn, 1)]])
def mc_X12_inForce : am_M := (99, false, [
  [some (.aload_n 0, 1), some (.iload_n 1, 1), some (.invokevirtual 30764, 3), none, none, some (.ifCond .eq 11, 3), none, none, some (.aload_n 0, 1), some (.iload_n 2, 1), some (.invokevirtual 28460, 3), none, none, some (.ifCond .ne 6, 3), none, none],
  [some (.bipush (-2), 2), none, some (.ireturn, 1), some (.aload_n 0, 1), some (.iload_n 1, 1), some (.invokevirtual 25900, 3), none, none, some (.istore_n 3, 1), some (.iconst 0, 1), some (.istore 4, 2), none, some (.iconst 0, 1), some (.istore 5, 2), none, some (.iload 5, 2)],
  [none, some (.aload_n 0, 1), some (.getfield 778, 3), none, none, some (.if_icmp .ge 70, 3), none, none, some (.iload_n 3, 1), some (.iload 5, 2), none, some (.ishr, 1), some (.iconst 1, 1), some (.iand, 1), some (.iconst 1, 1), some (.if_icmp .ne 54, 3)],
  [none, none, some (.aload_n 0, 1), some (.iload 5, 2), none, some (.iload_n 2, 1), some (.invokevirtual 30012, 3), none, none, some (.ifCond .eq 44, 3), none, none, some (.aload_n 0, 1), some (.getfield 779, 3), none, none],
  [some (.iload 5, 2), none, some (.iaload, 1), some (.iconst 1, 1), some (.if_icmp .ne 24, 3), none, none, some (.aload_n 0, 1), some (.aload_n 0, 1), some (.getfield 781, 3), none, none, some (.iload 5, 2), none, some (.iaload, 1), some (.bipush 12, 2)],
  [none, some (.idiv, 1), some (.iload_n 2, 1), some (.iload_n 3, 1), some (.invokevirtual 33868, 3), none, none, some (.iload 5, 2), none, some (.if_icmp .ne 12, 3), none, none, some (.iload 4, 2), none, some (.iconst 1, 1), some (.iload 5, 2)],
  [none, some (.ishl, 1), some (.ior, 1), some (.istore 4, 2), none, some (.iinc 5 1, 3), none, none, some (.goto (-73), 3), none, none, some (.iload 4, 2), none, some (.ireturn, 1)]])
def mc_X12_init : am_M := (12, false, [
  [some (.aload_n 0, 1), some (.invokespecial 31, 3), none, none, some (.aload_n 0, 1), some (.bipush 64, 2), none, some (.newarray .int, 2), none, some (.putfield 768, 3), none, none, some (.aload_n 0, 1), some (.bipush 64, 2), none, some (.newarray .int, 2)],
  [none, some (.putfield 769, 3), none, none, some (.aload_n 0, 1), some (.iconst 0, 1), some (.putfield 770, 3), none, none, some (.aload_n 0, 1), some (.iconst 0, 1), some (.putfield 771, 3), none, none, some (.aload_n 0, 1), some (.bipush 12, 2)],
  [none, some (.newarray .int, 2), none, some (.putfield 772, 3), none, none, some (.aload_n 0, 1), some (.bipush 6, 2), none, some (.newarray .int, 2), none, some (.putfield 773, 3), none, none, some (.aload_n 0, 1), some (.bipush 6, 2)],
  [none, some (.newarray .int, 2), none, some (.putfield 774, 3), none, none, some (.aload_n 0, 1), some (.bipush 31, 2), none, some (.newarray .int, 2), none, some (.putfield 775, 3), none, none, some (.aload_n 0, 1), some (.bipush 31, 2)],
  [none, some (.newarray .int, 2), none, some (.putfield 776, 3), none, none, some (.aload_n 0, 1), some (.bipush 31, 2), none, some (.newarray .int, 2), none, some (.putfield 777, 3), none, none, some (.aload_n 0, 1), some (.iconst 0, 1)],
  [some (.putfield 778, 3), none, none, some (.aload_n 0, 1), some (.bipush 24, 2), none, some (.newarray .int, 2), none, some (.putfield 779, 3), none, none, some (.aload_n 0, 1), some (.bipush 24, 2), none, some (.newarray .int, 2), none],
  [some (.putfield 780, 3), none, none, some (.aload_n 0, 1), some (.bipush 24, 2), none, some (.newarray .int, 2), none, some (.putfield 781, 3), none, none, some (.aload_n 0, 1), some (.bipush 24, 2), none, some (.newarray .int, 2), none],
  [some (.putfield 782, 3), none, none, some (.aload_n 0, 1), some (.bipush 24, 2), none, some (.newarray .int, 2), none, some (.putfield 783, 3), none, none, some (.aload_n 0, 1), some (.bipush 24, 2), none, some (.newarray .int, 2), none],
  [some (.putfield 784, 3), none, none, some (.aload_n 0, 1), some (.bipush 24, 2), none, some (.newarray .int, 2), none, some (.putfield 785, 3), none, none, some (.aload_n 0, 1), some (.sipush 160, 3), none, none, some (.newarray .byte, 2)],
  [none, some (.putfield 786, 3), none, none, some (.aload_n 0, 1), some (.iconst 0, 1), some (.putfield 787, 3), none, none, some (.aload_n 0, 1), some (.iconst 1, 1), some (.putfield 788, 3), none, none, some (.aload_n 0, 1), some (.iconst 3, 1)],
  [some (.newarray .int, 2), none, some (.putfield 789, 3), none, none, some (.aload_n 0, 1), some (.bipush 12, 2), none, some (.newarray .int, 2), none, some (.putfield 790, 3), none, none, some (.aload_n 0, 1), some (.sipush 1920, 3), none],
  [none, some (.newarray .int, 2), none, some (.putfield 791, 3), none, none, some (.aload_n 0, 1), some (.iconst 0, 1), some (.putfield 792, 3), none, none, some (.aload_n 0, 1), some (.iconst 0, 1), some (.putfield 793, 3), none, none],
  [some (.aload_n 0, 1), some (.iconst 0, 1), some (.putfield 794, 3), none, none, some (.aload_n 0, 1), some (.iconst 0, 1), some (.putfield 795, 3), none, none, some (.aload_n 0, 1), some (.sipush 161, 3), none, none, some (.newarray .int, 2), none],
  [some (.putfield 796, 3), none, none, some (.aload_n 0, 1), some (.bipush 7, 2), none, some (.newarray .boolean, 2), none, some (.putfield 797, 3), none, none, some (.aload_n 0, 1), some (.iconst 0, 1), some (.putfield 798, 3), none, none],
  [some (.aload_n 0, 1), some (.iconst 0, 1), some (.putfield 799, 3), none, none, some (.aload_n 0, 1), some (.iconst 0, 1), some (.putfield 800, 3), none, none, some (.aload_n 0, 1), some (.iconst 0, 1), some (.putfield 801, 3), none, none, some (.aload_n 0, 1)],
  [some (.bipush 6, 2), none, some (.newarray .int, 2), none, some (.putfield 802, 3), none, none, some (.aload_n 0, 1), some (.sipush 161, 3), none, none, some (.newarray .int, 2), none, some (.putfield 803, 3), none, none],
  [some (.aload_n 0, 1), some (.iconst 0, 1), some (.putfield 804, 3), none, none, some (.aload_n 0, 1), some (.bipush 30, 2), none, some (.newarray .int, 2), none, some (.putfield 805, 3), none, none, some (.aload_n 0, 1), some (.bipush 30, 2), none],
  [some (.newarray .int, 2), none, some (.putfield 806, 3), none, none, some (.aload_n 0, 1), some (.bipush 30, 2), none, some (.newarray .int, 2), none, some (.putfield 807, 3), none, none, some (.aload_n 0, 1), some (.bipush 30, 2), none],
  [some (.newarray .int, 2), none, some (.putfield 808, 3), none, none, some (.aload_n 0, 1), some (.iconst 0, 1), some (.putfield 809, 3), none, none, some (.aload_n 0, 1), some (.bipush 10, 2), none, some (.newarray .int, 2), none, some (.putfield 810, 3)],
  [none, none, some (.aload_n 0, 1), some (.bipush 10, 2), none, some (.newarray .int, 2), none, some (.putfield 811, 3), none, none, some (.aload_n 0, 1), some (.bipush 10, 2), none, some (.newarray .int, 2), none, some (.putfield 812, 3)],
  [none, none, some (.aload_n 0, 1), some (.bipush 8, 2), none, some (.newarray .int, 2), none, some (.putfield 813, 3), none, none, some (.aload_n 0, 1), some (.iconst 0, 1), some (.putfield 814, 3), none, none, some (.aload_n 0, 1)],
  [some (.bipush 8, 2), none, some (.newarray .int, 2), none, some (.putfield 815, 3), none, none, some (.aload_n 0, 1), some (.bipush 64, 2), none, some (.newarray .int, 2), none, some (.putfield 816, 3), none, none, some (.aload_n 0, 1)],
  [some (.bipush 8, 2), none, some (.newarray .int, 2), none, some (.putfield 817, 3), none, none, some (.aload_n 0, 1), some (.bipush 8, 2), none, some (.newarray .int, 2), none, some (.putfield 818, 3), none, none, some (.aload_n 0, 1)],
  [some (.bipush 7, 2), none, some (.newarray .int, 2), none, some (.putfield 819, 3), none, none, some (.aload_n 0, 1), some (.bipush 7, 2), none, some (.newarray .int, 2), none, some (.putfield 820, 3), none, none, some (.aload_n 0, 1)],
  [some (.bipush 7, 2), none, some (.newarray .int, 2), none, some (.putfield 821, 3), none, none, some (.aload_n 0, 1), some (.iconst 0, 1), some (.putfield 822, 3), none, none, some (.aload_n 0, 1), some (.iconst 4, 1), some (.newarray .int, 2), none],
  [some (.dup, 1), some (.iconst 0, 1), some (.iconst (-1), 1), some (.iastore, 1), some (.dup, 1), some (.iconst 1, 1), some (.iconst (-1), 1), some (.iastore, 1), some (.dup, 1), some (.iconst 2, 1), some (.iconst (-1), 1), some (.iastore, 1), some (.dup, 1), some (.iconst 3, 1), some (.iconst (-1), 1), some (.iastore, 1)],
  [some (.putfield 823, 3), none, none, some (.aload_n 0, 1), some (.iconst 4, 1), some (.newarray .int, 2), none, some (.putfield 824, 3), none, none, some (.aload_n 0, 1), some (.sipush 160, 3), none, none, some (.newarray .int, 2), none],
  [some (.putfield 825, 3), none, none, some (.aload_n 0, 1), some (.bipush 40, 2), none, some (.newarray .int, 2), none, some (.putfield 826, 3), none, none, some (.iconst 0, 1), some (.istore_n 1, 1), some (.iload_n 1, 1), some (.bipush 64, 2), none],
  [some (.if_icmp .ge 33, 3), none, none, some (.aload_n 0, 1), some (.getfield 768, 3), none, none, some (.iload_n 1, 1), some (.iload_n 1, 1), some (.bipush 8, 2), none, some (.idiv, 1), some (.iload_n 1, 1), some (.bipush 8, 2), none, some (.irem, 1)],
  [some (.if_icmp .ne 7, 3), none, none, some (.iconst 0, 1), some (.goto 6, 3), none, none, some (.sipush 999, 3), none, none, some (.iastore, 1), some (.iinc 1 1, 3), none, none, some (.goto (-33), 3), none],
  [none, some (.iconst 0, 1), some (.istore_n 1, 1), some (.iload_n 1, 1), some (.bipush 6, 2), none, some (.if_icmp .ge 16, 3), none, none, some (.aload_n 0, 1), some (.getfield 774, 3), none, none, some (.iload_n 1, 1), some (.iconst (-1), 1), some (.iastore, 1)],
  [some (.iinc 1 1, 3), none, none, some (.goto (-16), 3), none, none, some (.aload_n 0, 1), some (.invokevirtual 38684, 3), none, none, some (.return_, 1)]])
def mc_X12_isAct : am_M := (99, true, [
  [some (.aload_n 0, 1), some (.iload_n 1, 1), some (.iconst 0, 1), some (.aload_n 0, 1), some (.getfield 778, 3), none, none, some (.iconst 1, 1), some (.isub, 1), some (.invokevirtual 26956, 3), none, none, some (.ireturn, 1)]])
def mc_X12_isBetter : am_M := (99, true, [
  [some (.aload_n 0, 1), some (.iload_n 1, 1), some (.invokevirtual 35372, 3), none, none, some (.aload_n 0, 1), some (.iload_n 2, 1), some (.invokevirtual 35372, 3), none, none, some (.if_icmp .eq 22, 3), none, none, some (.aload_n 0, 1), some (.iload_n 1, 1), some (.invokevirtual 35372, 3)],
  [none, none, some (.aload_n 0, 1), some (.iload_n 2, 1), some (.invokevirtual 35372, 3), none, none, some (.if_icmp .le 7, 3), none, none, some (.iconst 1, 1), some (.goto 4, 3), none, none, some (.iconst 0, 1), some (.ireturn, 1)],
  [some (.aload_n 0, 1), some (.iload_n 1, 1), some (.iload_n 3, 1), some (.invokevirtual 43324, 3), none, none, some (.aload_n 0, 1), some (.iload_n 2, 1), some (.iload_n 3, 1), some (.invokevirtual 43324, 3), none, none, some (.if_icmp .eq 24, 3), none, none, some (.aload_n 0, 1)],
  [some (.iload_n 1, 1), some (.iload_n 3, 1), some (.invokevirtual 43324, 3), none, none, some (.aload_n 0, 1), some (.iload_n 2, 1), some (.iload_n 3, 1), some (.invokevirtual 43324, 3), none, none, some (.if_icmp .ge 7, 3), none, none, some (.iconst 1, 1), some (.goto 4, 3)],
  [none, none, some (.iconst 0, 1), some (.ireturn, 1), some (.aload_n 0, 1), some (.aload_n 0, 1), some (.iload_n 1, 1), some (.invokevirtual 42540, 3), none, none, some (.invokevirtual 35372, 3), none, none, some (.aload_n 0, 1), some (.aload_n 0, 1), some (.iload_n 2, 1)],
  [some (.invokevirtual 42540, 3), none, none, some (.invokevirtual 35372, 3), none, none, some (.if_icmp .le 7, 3), none, none, some (.iconst 1, 1), some (.goto 4, 3), none, none, some (.iconst 0, 1), some (.ireturn, 1)]])
def mc_X12_isClause : am_M := (99, true, [
  [some (.aload_n 0, 1), some (.iload_n 1, 1), some (.iconst 0, 1), some (.aload_n 0, 1), some (.getfield 814, 3), none, none, some (.iconst 1, 1), some (.isub, 1), some (.invokevirtual 26956, 3), none, none, some (.ireturn, 1)]])
def mc_X12_isDay : am_M := (99, true, [
  [some (.aload_n 0, 1), some (.iload_n 1, 1), some (.iconst 0, 1), some (.sipush 9999, 3), none, none, some (.invokevirtual 26956, 3), none, none, some (.ireturn, 1)]])
def mc_X12_isDigit : am_M := (99, true, [
  [some (.iload_n 1, 1), some (.bipush 48, 2), none, some (.if_icmp .lt 13, 3), none, none, some (.iload_n 1, 1), some (.bipush 57, 2), none, some (.if_icmp .gt 7, 3), none, none, some (.iconst 1, 1), some (.goto 4, 3), none, none],
  [some (.iconst 0, 1), some (.ireturn, 1)]])
def mc_X12_isKey : am_M := (99, true, [
  [some (.aload_n 0, 1), some (.getfield 793, 3), none, none, some (.iconst 3, 1), some (.if_icmp .ne 15, 3), none, none, some (.aload_n 0, 1), some (.getfield 794, 3), none, none, some (.iload_n 1, 1), some (.if_icmp .ne 7, 3), none, none],
  [some (.iconst 1, 1), some (.goto 4, 3), none, none, some (.iconst 0, 1), some (.ireturn, 1)]])
def mc_X12_isLand : am_M := (99, true, [
  [some (.aload_n 0, 1), some (.iload_n 1, 1), some (.iconst 0, 1), some (.bipush 7, 2), none, some (.invokevirtual 26956, 3), none, none, some (.ireturn, 1)]])
def mc_X12_isLetter : am_M := (99, true, [
  [some (.iload_n 1, 1), some (.bipush 97, 2), none, some (.if_icmp .lt 13, 3), none, none, some (.iload_n 1, 1), some (.bipush 122, 2), none, some (.if_icmp .gt 7, 3), none, none, some (.iconst 1, 1), some (.goto 4, 3), none, none],
  [some (.iconst 0, 1), some (.ireturn, 1)]])
def mc_X12_isOffice : am_M := (99, true, [
  [some (.aload_n 0, 1), some (.iload_n 1, 1), some (.iconst 0, 1), some (.iconst 5, 1), some (.invokevirtual 26956, 3), none, none, some (.ireturn, 1)]])
def mc_X12_isOn : am_M := (99, true, [
  [some (.iload_n 2, 1), some (.aload_n 0, 1), some (.getfield 782, 3), none, none, some (.iload_n 1, 1), some (.iaload, 1), some (.if_icmp .lt 23, 3), none, none, some (.iload_n 2, 1), some (.aload_n 0, 1), some (.getfield 782, 3), none, none, some (.iload_n 1, 1)],
  [some (.iaload, 1), some (.isub, 1), some (.aload_n 0, 1), some (.iload_n 1, 1), some (.invokevirtual 33324, 3), none, none, some (.if_icmp .ge 7, 3), none, none, some (.iconst 1, 1), some (.goto 4, 3), none, none, some (.iconst 0, 1), some (.ireturn, 1)]])
def mc_X12_isPerson : am_M := (99, true, [
  [some (.aload_n 0, 1), some (.iload_n 1, 1), some (.iconst 0, 1), some (.aload_n 0, 1), some (.getfield 770, 3), none, none, some (.iconst 1, 1), some (.isub, 1), some (.invokevirtual 26956, 3), none, none, some (.ireturn, 1)]])
def mc_X12_isSheet : am_M := (99, true, [
  [some (.aload_n 0, 1), some (.iload_n 1, 1), some (.iconst 0, 1), some (.iconst 3, 1), some (.invokevirtual 26956, 3), none, none, some (.ireturn, 1)]])
def mc_X12_isSide : am_M := (99, true, [
  [some (.aload_n 0, 1), some (.iload_n 1, 1), some (.iconst 0, 1), some (.iconst 2, 1), some (.invokevirtual 26956, 3), none, none, some (.ireturn, 1)]])
def mc_X12_isSign : am_M := (99, true, [
  [some (.aload_n 0, 1), some (.getfield 793, 3), none, none, some (.iconst 4, 1), some (.if_icmp .ne 15, 3), none, none, some (.aload_n 0, 1), some (.getfield 794, 3), none, none, some (.iload_n 1, 1), some (.if_icmp .ne 7, 3), none, none],
  [some (.iconst 1, 1), some (.goto 4, 3), none, none, some (.iconst 0, 1), some (.ireturn, 1)]])
def mc_X12_isText : am_M := (99, true, [
  [some (.aload_n 0, 1), some (.iconst 0, 1), some (.putfield 792, 3), none, none, some (.aload_n 0, 1), some (.invokevirtual 34076, 3), none, none, some (.iconst 0, 1), some (.istore_n 1, 1), some (.iload_n 1, 1), some (.iconst 2, 1), some (.if_icmp .ge 48, 3), none, none],
  [some (.aload_n 0, 1), some (.iload_n 1, 1), some (.invokevirtual 28972, 3), none, none, some (.ifCond .ne 5, 3), none, none, some (.iconst 0, 1), some (.ireturn, 1), some (.aload_n 0, 1), some (.invokevirtual 34076, 3), none, none, some (.aload_n 0, 1), some (.iconst 2, 1)],
  [some (.aload_n 0, 1), some (.getfield 788, 3), none, none, some (.imul, 1), some (.iload_n 1, 1), some (.iadd, 1), some (.putfield 801, 3), none, none, some (.aload_n 0, 1), some (.invokevirtual 35868, 3), none, none, some (.ifCond .ne 5, 3), none],
  [none, some (.iconst 0, 1), some (.ireturn, 1), some (.aload_n 0, 1), some (.invokevirtual 34076, 3), none, none, some (.iinc 1 1, 3), none, none, some (.goto (-47), 3), none, none, some (.aload_n 0, 1), some (.getfield 793, 3), none],
  [none, some (.ifCond .ne 7, 3), none, none, some (.iconst 1, 1), some (.goto 4, 3), none, none, some (.iconst 0, 1), some (.ireturn, 1)]])
def mc_X12_isTurn : am_M := (99, true, [
  [some (.aload_n 0, 1), some (.iload_n 1, 1), some (.invokevirtual 29228, 3), none, none, some (.ifCond .eq 25, 3), none, none, some (.aload_n 0, 1), some (.iload_n 2, 1), some (.invokevirtual 28460, 3), none, none, some (.ifCond .eq 17, 3), none, none],
  [some (.aload_n 0, 1), some (.iload_n 3, 1), some (.iconst 0, 1), some (.iconst 1, 1), some (.invokevirtual 26956, 3), none, none, some (.ifCond .eq 7, 3), none, none, some (.iconst 1, 1), some (.goto 4, 3), none, none, some (.iconst 0, 1), some (.ireturn, 1)]])
def mc_X12_isUnder : am_M := (99, true, [
  [some (.iload_n 2, 1), some (.ifCond .eq 28, 3), none, none, some (.iload_n 1, 1), some (.iload_n 2, 1), some (.if_icmp .eq 23, 3), none, none, some (.iload_n 2, 1), some (.iconst 2, 1), some (.if_icmp .ne 8, 3), none, none, some (.iload_n 1, 1), some (.iconst 4, 1)],
  [some (.if_icmp .eq 13, 3), none, none, some (.iload_n 2, 1), some (.iconst 3, 1), some (.if_icmp .ne 12, 3), none, none, some (.iload_n 1, 1), some (.iconst 5, 1), some (.if_icmp .ne 7, 3), none, none, some (.iconst 1, 1), some (.goto 4, 3), none],
  [none, some (.iconst 0, 1), some (.ireturn, 1)]])
def mc_X12_isWord : am_M := (99, true, [
  [some (.lload_n 1, 1), some (.lstore_n 3, 1), some (.aload_n 0, 1), some (.getfield 792, 3), none, none, some (.iconst 1, 1), some (.isub, 1), some (.istore 5, 2), none, some (.iload 5, 2), none, some (.aload_n 0, 1), some (.getfield 795, 3), none, none],
  [some (.if_icmp .lt 39, 3), none, none, some (.lload_n 3, 1), some (.lconst 0, 1), some (.lcmp, 1), some (.ifCond .le 33, 3), none, none, some (.lload_n 3, 1), some (.ldc2_w 31, 3), none, none, some (.land, 1), some (.aload_n 0, 1), some (.getfield 786, 3)],
  [none, none, some (.iload 5, 2), none, some (.baload, 1), some (.bipush 96, 2), none, some (.isub, 1), some (.i2l, 1), some (.lcmp, 1), some (.ifCond .ne 13, 3), none, none, some (.lload_n 3, 1), some (.iconst 5, 1), some (.lshr, 1)],
  [some (.lstore_n 3, 1), some (.iinc 5 (-1), 3), none, none, some (.goto (-42), 3), none, none, some (.lload_n 3, 1), some (.lconst 0, 1), some (.lcmp, 1), some (.ifCond .ne 18, 3), none, none, some (.iload 5, 2), none, some (.aload_n 0, 1)],
  [some (.getfield 795, 3), none, none, some (.iconst 1, 1), some (.isub, 1), some (.if_icmp .ne 7, 3), none, none, some (.iconst 1, 1), some (.goto 4, 3), none, none, some (.iconst 0, 1), some (.ireturn, 1)]])
def mc_X12_journey : am_M := (99, false, [
  [some (.aload_n 0, 1), some (.iload_n 1, 1), some (.invokevirtual 29228, 3), none, none, some (.ifCond .eq 15, 3), none, none, some (.aload_n 0, 1), some (.iload_n 2, 1), some (.iconst 0, 1), some (.sipush 255, 3), none, none, some (.invokevirtual 26956, 3), none],
  [none, some (.ifCond .ne 6, 3), none, none, some (.bipush (-2), 2), none, some (.ireturn, 1), some (.aload_n 0, 1), some (.invokevirtual 25116, 3), none, none, some (.aload_n 0, 1), some (.iconst 0, 1), some (.putfield 822, 3), none, none],
  [some (.iconst 0, 1), some (.istore 4, 2), none, some (.iload 4, 2), none, some (.bipush 8, 2), none, some (.if_icmp .ge 61, 3), none, none, some (.iload 4, 2), none, some (.iload_n 1, 1), some (.if_icmp .eq 49, 3), none, none],
  [some (.iload_n 2, 1), some (.iload 4, 2), none, some (.ishr, 1), some (.iconst 1, 1), some (.iand, 1), some (.ifCond .ne 6, 3), none, none, some (.goto 37, 3), none, none, some (.aload_n 0, 1), some (.getfield 819, 3), none, none],
  [some (.aload_n 0, 1), some (.getfield 822, 3), none, none, some (.aload_n 0, 1), some (.getfield 822, 3), none, none, some (.iastore, 1), some (.aload_n 0, 1), some (.getfield 821, 3), none, none, some (.aload_n 0, 1), some (.getfield 822, 3), none],
  [none, some (.iload 4, 2), none, some (.iastore, 1), some (.aload_n 0, 1), some (.dup, 1), some (.getfield 822, 3), none, none, some (.iconst 1, 1), some (.iadd, 1), some (.putfield 822, 3), none, none, some (.iinc 4 1, 3), none],
  [none, some (.goto (-62), 3), none, none, some (.iconst (-1), 1), some (.istore 4, 2), none, some (.iconst 1, 1), some (.istore 5, 2), none, some (.iload 5, 2), none, some (.ifCond .eq 67, 3), none, none, some (.aload_n 0, 1)],
  [some (.iload_n 1, 1), some (.invokevirtual 43564, 3), none, none, some (.istore 6, 2), none, some (.iload 6, 2), none, some (.iload 4, 2), none, some (.if_icmp .le 44, 3), none, none, some (.iload 6, 2), none, some (.istore 4, 2)],
  [none, some (.iconst 0, 1), some (.istore 7, 2), none, some (.iload 7, 2), none, some (.aload_n 0, 1), some (.getfield 822, 3), none, none, some (.if_icmp .ge 28, 3), none, none, some (.aload_n 0, 1), some (.getfield 820, 3), none],
  [none, some (.iload 7, 2), none, some (.aload_n 0, 1), some (.getfield 821, 3), none, none, some (.aload_n 0, 1), some (.getfield 819, 3), none, none, some (.iload 7, 2), none, some (.iaload, 1), some (.iaload, 1), some (.iastore, 1)],
  [some (.iinc 7 1, 3), none, none, some (.goto (-31), 3), none, none, some (.aload_n 0, 1), some (.invokevirtual 34332, 3), none, none, some (.istore 5, 2), none, some (.goto (-66), 3), none, none, some (.iload_n 3, 1)],
  [some (.iconst (-1), 1), some (.if_icmp .ne 8, 3), none, none, some (.iload 4, 2), none, some (.goto 28, 3), none, none, some (.aload_n 0, 1), some (.iload_n 3, 1), some (.iconst 0, 1), some (.aload_n 0, 1), some (.getfield 822, 3), none, none],
  [some (.iconst 1, 1), some (.isub, 1), some (.invokevirtual 26956, 3), none, none, some (.ifCond .eq 12, 3), none, none, some (.aload_n 0, 1), some (.getfield 820, 3), none, none, some (.iload_n 3, 1), some (.iaload, 1), some (.goto 4, 3), none],
  [none, some (.iconst (-1), 1), some (.ireturn, 1)]])
def mc_X12_knew : am_M := (99, true, [
  [some (.aload_n 0, 1), some (.iload_n 1, 1), some (.aload_n 0, 1), some (.getfield 772, 3), none, none, some (.aload_n 0, 1), some (.getfield 780, 3), none, none, some (.iload_n 2, 1), some (.iaload, 1), some (.iaload, 1), some (.invokevirtual 33084, 3), none, none],
  [some (.istore_n 3, 1), some (.iload_n 3, 1), some (.ifCond .lt 17, 3), none, none, some (.iload_n 3, 1), some (.aload_n 0, 1), some (.getfield 782, 3), none, none, some (.iload_n 2, 1), some (.iaload, 1), some (.if_icmp .gt 7, 3), none, none, some (.iconst 1, 1)],
  [some (.goto 4, 3), none, none, some (.iconst 0, 1), some (.ireturn, 1)]])
def mc_X12_known : am_M := (99, false, [
  [some (.aload_n 0, 1), some (.iload_n 1, 1), some (.invokevirtual 27692, 3), none, none, some (.ifCond .eq 11, 3), none, none, some (.aload_n 0, 1), some (.iload_n 2, 1), some (.invokevirtual 29228, 3), none, none, some (.ifCond .ne 6, 3), none, none],
  [some (.bipush (-2), 2), none, some (.ireturn, 1), some (.aload_n 0, 1), some (.invokevirtual 25116, 3), none, none, some (.aload_n 0, 1), some (.iload_n 1, 1), some (.iload_n 2, 1), some (.invokevirtual 33084, 3), none, none, some (.ireturn, 1)]])
def mc_X12_knownIn : am_M := (99, false, [
  [some (.aload_n 0, 1), some (.getfield 769, 3), none, none, some (.bipush 8, 2), none, some (.aload_n 0, 1), some (.getfield 772, 3), none, none, some (.aload_n 0, 1), some (.getfield 780, 3), none, none, some (.iload_n 1, 1), some (.iaload, 1)],
  [some (.iaload, 1), some (.imul, 1), some (.iload_n 2, 1), some (.iadd, 1), some (.iaload, 1), some (.istore_n 3, 1), some (.iload_n 3, 1), some (.sipush 999, 3), none, none, some (.if_icmp .lt 7, 3), none, none, some (.iconst (-1), 1), some (.goto 11, 3), none],
  [none, some (.aload_n 0, 1), some (.getfield 782, 3), none, none, some (.iload_n 1, 1), some (.iaload, 1), some (.iload_n 3, 1), some (.iadd, 1), some (.ireturn, 1)]])
def mc_X12_lastsOf : am_M := (99, false, [
  [some (.aload_n 0, 1), some (.getfield 779, 3), none, none, some (.iload_n 1, 1), some (.iaload, 1), some (.iconst 4, 1), some (.if_icmp .ne 26, 3), none, none, some (.aload_n 0, 1), some (.getfield 785, 3), none, none, some (.iload_n 1, 1), some (.iaload, 1)],
  [some (.ifCond .lt 17, 3), none, none, some (.aload_n 0, 1), some (.getfield 785, 3), none, none, some (.iload_n 1, 1), some (.iaload, 1), some (.aload_n 0, 1), some (.getfield 782, 3), none, none, some (.iload_n 1, 1), some (.iaload, 1), some (.isub, 1)],
  [some (.ireturn, 1), some (.aload_n 0, 1), some (.getfield 779, 3), none, none, some (.iload_n 1, 1), some (.iaload, 1), some (.iconst 2, 1), some (.if_icmp .eq 13, 3), none, none, some (.aload_n 0, 1), some (.getfield 779, 3), none, none, some (.iload_n 1, 1)],
  [some (.iaload, 1), some (.iconst 4, 1), some (.if_icmp .ne 9, 3), none, none, some (.sipush 1000, 3), none, none, some (.goto 38, 3), none, none, some (.aload_n 0, 1), some (.getfield 779, 3), none, none, some (.iload_n 1, 1)],
  [some (.iaload, 1), some (.iconst 3, 1), some (.if_icmp .ne 9, 3), none, none, some (.sipush 300, 3), none, none, some (.goto 22, 3), none, none, some (.aload_n 0, 1), some (.getfield 779, 3), none, none, some (.iload_n 1, 1)],
  [some (.iaload, 1), some (.iconst 5, 1), some (.if_icmp .ne 9, 3), none, none, some (.sipush 900, 3), none, none, some (.goto 6, 3), none, none, some (.sipush 9999, 3), none, none, some (.ireturn, 1)]])
def mc_X12_lift : am_M := (99, false, [
  [some (.aload_n 0, 1), some (.iload_n 1, 1), some (.invokevirtual 27692, 3), none, none, some (.ifCond .eq 21, 3), none, none, some (.aload_n 0, 1), some (.iload_n 2, 1), some (.invokevirtual 28460, 3), none, none, some (.ifCond .eq 13, 3), none, none],
  [some (.iload_n 2, 1), some (.aload_n 0, 1), some (.getfield 782, 3), none, none, some (.iload_n 1, 1), some (.iaload, 1), some (.if_icmp .ge 6, 3), none, none, some (.bipush (-2), 2), none, some (.ireturn, 1), some (.aload_n 0, 1), some (.getfield 779, 3), none],
  [none, some (.iload_n 1, 1), some (.iaload, 1), some (.iconst 4, 1), some (.if_icmp .eq 6, 3), none, none, some (.bipush (-13), 2), none, some (.ireturn, 1), some (.aload_n 0, 1), some (.getfield 785, 3), none, none, some (.iload_n 1, 1), some (.iaload, 1)],
  [some (.ifCond .lt 6, 3), none, none, some (.bipush (-3), 2), none, some (.ireturn, 1), some (.aload_n 0, 1), some (.getfield 785, 3), none, none, some (.iload_n 1, 1), some (.iload_n 2, 1), some (.iastore, 1), some (.iload_n 2, 1), some (.aload_n 0, 1), some (.getfield 782, 3)],
  [none, none, some (.iload_n 1, 1), some (.iaload, 1), some (.isub, 1), some (.ireturn, 1)]])
def mc_X12_namingOf : am_M := (99, false, [
  [some (.iconst (-1), 1), some (.istore 4, 2), none, some (.iconst 0, 1), some (.istore 5, 2), none, some (.iload 5, 2), none, some (.aload_n 0, 1), some (.getfield 778, 3), none, none, some (.if_icmp .ge 81, 3), none, none, some (.aload_n 0, 1)],
  [some (.getfield 779, 3), none, none, some (.iload 5, 2), none, some (.iaload, 1), some (.iconst 1, 1), some (.if_icmp .ne 64, 3), none, none, some (.aload_n 0, 1), some (.getfield 781, 3), none, none, some (.iload 5, 2), none],
  [some (.iaload, 1), some (.bipush 12, 2), none, some (.idiv, 1), some (.iload_n 1, 1), some (.if_icmp .ne 50, 3), none, none, some (.iload_n 3, 1), some (.iload 5, 2), none, some (.ishr, 1), some (.iconst 1, 1), some (.iand, 1), some (.iconst 1, 1), some (.if_icmp .ne 40, 3)],
  [none, none, some (.aload_n 0, 1), some (.getfield 782, 3), none, none, some (.iload 5, 2), none, some (.iaload, 1), some (.iload_n 2, 1), some (.if_icmp .gt 29, 3), none, none, some (.iload 4, 2), none, some (.ifCond .lt 20, 3)],
  [none, none, some (.aload_n 0, 1), some (.getfield 782, 3), none, none, some (.iload 5, 2), none, some (.iaload, 1), some (.aload_n 0, 1), some (.getfield 782, 3), none, none, some (.iload 4, 2), none, some (.iaload, 1)],
  [some (.if_icmp .lt 7, 3), none, none, some (.iload 5, 2), none, some (.istore 4, 2), none, some (.iinc 5 1, 3), none, none, some (.goto (-84), 3), none, none, some (.iload 4, 2), none, some (.ireturn, 1)]])
def mc_X12_next : am_M := (99, false, [
  [some (.aload_n 0, 1), some (.getfield 792, 3), none, none, some (.aload_n 0, 1), some (.getfield 787, 3), none, none, some (.if_icmp .ge 44, 3), none, none, some (.aload_n 0, 1), some (.getfield 786, 3), none, none, some (.aload_n 0, 1)],
  [some (.getfield 792, 3), none, none, some (.baload, 1), some (.bipush 32, 2), none, some (.if_icmp .eq 17, 3), none, none, some (.aload_n 0, 1), some (.getfield 786, 3), none, none, some (.aload_n 0, 1), some (.getfield 792, 3), none],
  [none, some (.baload, 1), some (.bipush 10, 2), none, some (.if_icmp .ne 16, 3), none, none, some (.aload_n 0, 1), some (.dup, 1), some (.getfield 792, 3), none, none, some (.iconst 1, 1), some (.iadd, 1), some (.putfield 792, 3), none],
  [none, some (.goto (-49), 3), none, none, some (.aload_n 0, 1), some (.aload_n 0, 1), some (.getfield 792, 3), none, none, some (.putfield 795, 3), none, none, some (.aload_n 0, 1), some (.iconst 0, 1), some (.putfield 793, 3), none],
  [none, some (.aload_n 0, 1), some (.getfield 792, 3), none, none, some (.aload_n 0, 1), some (.getfield 787, 3), none, none, some (.if_icmp .ne 4, 3), none, none, some (.return_, 1), some (.aload_n 0, 1), some (.getfield 786, 3), none],
  [none, some (.aload_n 0, 1), some (.getfield 792, 3), none, none, some (.baload, 1), some (.istore_n 1, 1), some (.aload_n 0, 1), some (.iload_n 1, 1), some (.invokevirtual 29484, 3), none, none, some (.ifCond .eq 8, 3), none, none, some (.aload_n 0, 1)],
  [some (.invokevirtual 43804, 3), none, none, some (.return_, 1), some (.aload_n 0, 1), some (.iload_n 1, 1), some (.invokevirtual 28716, 3), none, none, some (.ifCond .eq 115, 3), none, none, some (.aload_n 0, 1), some (.iconst 0, 1), some (.putfield 794, 3), none],
  [none, some (.aload_n 0, 1), some (.getfield 792, 3), none, none, some (.aload_n 0, 1), some (.getfield 787, 3), none, none, some (.if_icmp .ge 76, 3), none, none, some (.aload_n 0, 1), some (.aload_n 0, 1), some (.getfield 786, 3), none],
  [none, some (.aload_n 0, 1), some (.getfield 792, 3), none, none, some (.baload, 1), some (.invokevirtual 28716, 3), none, none, some (.ifCond .eq 60, 3), none, none, some (.aload_n 0, 1), some (.aload_n 0, 1), some (.getfield 792, 3), none],
  [none, some (.aload_n 0, 1), some (.getfield 795, 3), none, none, some (.isub, 1), some (.iconst 4, 1), some (.if_icmp .ge 26, 3), none, none, some (.bipush 10, 2), none, some (.aload_n 0, 1), some (.getfield 794, 3), none, none],
  [some (.imul, 1), some (.aload_n 0, 1), some (.getfield 786, 3), none, none, some (.aload_n 0, 1), some (.getfield 792, 3), none, none, some (.baload, 1), some (.iadd, 1), some (.bipush 48, 2), none, some (.isub, 1), some (.goto 7, 3), none],
  [none, some (.aload_n 0, 1), some (.getfield 794, 3), none, none, some (.putfield 794, 3), none, none, some (.aload_n 0, 1), some (.dup, 1), some (.getfield 792, 3), none, none, some (.iconst 1, 1), some (.iadd, 1), some (.putfield 792, 3)],
  [none, none, some (.goto (-81), 3), none, none, some (.aload_n 0, 1), some (.aload_n 0, 1), some (.getfield 792, 3), none, none, some (.aload_n 0, 1), some (.getfield 795, 3), none, none, some (.isub, 1), some (.iconst 4, 1)],
  [some (.if_icmp .le 7, 3), none, none, some (.iconst 5, 1), some (.goto 4, 3), none, none, some (.iconst 1, 1), some (.putfield 793, 3), none, none, some (.return_, 1), some (.aload_n 0, 1), some (.dup, 1), some (.getfield 792, 3), none],
  [none, some (.iconst 1, 1), some (.iadd, 1), some (.putfield 792, 3), none, none, some (.aload_n 0, 1), some (.iload_n 1, 1), some (.putfield 794, 3), none, none, some (.aload_n 0, 1), some (.iload_n 1, 1), some (.bipush 40, 2), none, some (.if_icmp .eq 45, 3)],
  [none, none, some (.iload_n 1, 1), some (.bipush 41, 2), none, some (.if_icmp .eq 39, 3), none, none, some (.iload_n 1, 1), some (.bipush 59, 2), none, some (.if_icmp .eq 33, 3), none, none, some (.iload_n 1, 1), some (.bipush 43, 2)],
  [none, some (.if_icmp .eq 27, 3), none, none, some (.iload_n 1, 1), some (.bipush 45, 2), none, some (.if_icmp .eq 21, 3), none, none, some (.iload_n 1, 1), some (.bipush 42, 2), none, some (.if_icmp .eq 15, 3), none, none],
  [some (.iload_n 1, 1), some (.bipush 60, 2), none, some (.if_icmp .eq 9, 3), none, none, some (.iload_n 1, 1), some (.bipush 61, 2), none, some (.if_icmp .ne 7, 3), none, none, some (.iconst 4, 1), some (.goto 4, 3), none, none],
  [some (.iconst 5, 1), some (.putfield 793, 3), none, none, some (.return_, 1)]])
def mc_X12_nextOrder : am_M := (99, true, [
  [some (.aload_n 0, 1), some (.getfield 822, 3), none, none, some (.iconst 2, 1), some (.isub, 1), some (.istore_n 1, 1), some (.iload_n 1, 1), some (.ifCond .lt 26, 3), none, none, some (.aload_n 0, 1), some (.getfield 819, 3), none, none, some (.iload_n 1, 1)],
  [some (.iaload, 1), some (.aload_n 0, 1), some (.getfield 819, 3), none, none, some (.iload_n 1, 1), some (.iconst 1, 1), some (.iadd, 1), some (.iaload, 1), some (.if_icmp .le 9, 3), none, none, some (.iinc 1 (-1), 3), none, none, some (.goto (-24), 3)],
  [none, none, some (.iload_n 1, 1), some (.ifCond .ge 5, 3), none, none, some (.iconst 0, 1), some (.ireturn, 1), some (.aload_n 0, 1), some (.getfield 822, 3), none, none, some (.iconst 1, 1), some (.isub, 1), some (.istore_n 2, 1), some (.aload_n 0, 1)],
  [some (.getfield 819, 3), none, none, some (.iload_n 2, 1), some (.iaload, 1), some (.aload_n 0, 1), some (.getfield 819, 3), none, none, some (.iload_n 1, 1), some (.iaload, 1), some (.if_icmp .ge 9, 3), none, none, some (.iinc 2 (-1), 3), none],
  [none, some (.goto (-18), 3), none, none, some (.aload_n 0, 1), some (.getfield 819, 3), none, none, some (.iload_n 1, 1), some (.iaload, 1), some (.istore_n 3, 1), some (.aload_n 0, 1), some (.getfield 819, 3), none, none, some (.iload_n 1, 1)],
  [some (.aload_n 0, 1), some (.getfield 819, 3), none, none, some (.iload_n 2, 1), some (.iaload, 1), some (.iastore, 1), some (.aload_n 0, 1), some (.getfield 819, 3), none, none, some (.iload_n 2, 1), some (.iload_n 3, 1), some (.iastore, 1), some (.iload_n 1, 1), some (.iconst 1, 1)],
  [some (.iadd, 1), some (.istore 4, 2), none, some (.aload_n 0, 1), some (.getfield 822, 3), none, none, some (.iconst 1, 1), some (.isub, 1), some (.istore 5, 2), none, some (.iload 4, 2), none, some (.iload 5, 2), none, some (.if_icmp .ge 42, 3)],
  [none, none, some (.aload_n 0, 1), some (.getfield 819, 3), none, none, some (.iload 4, 2), none, some (.iaload, 1), some (.istore_n 3, 1), some (.aload_n 0, 1), some (.getfield 819, 3), none, none, some (.iload 4, 2), none],
  [some (.aload_n 0, 1), some (.getfield 819, 3), none, none, some (.iload 5, 2), none, some (.iaload, 1), some (.iastore, 1), some (.aload_n 0, 1), some (.getfield 819, 3), none, none, some (.iload 5, 2), none, some (.iload_n 3, 1), some (.iastore, 1)],
  [some (.iinc 4 1, 3), none, none, some (.iinc 5 (-1), 3), none, none, some (.goto (-43), 3), none, none, some (.iconst 1, 1), some (.ireturn, 1)]])
def mc_X12_note : am_M := (99, false, [
  [some (.aload_n 0, 1), some (.getfield 775, 3), none, none, some (.aload_n 0, 1), some (.getfield 771, 3), none, none, some (.iload_n 1, 1), some (.iastore, 1), some (.aload_n 0, 1), some (.getfield 776, 3), none, none, some (.aload_n 0, 1), some (.getfield 771, 3)],
  [none, none, some (.iload_n 2, 1), some (.iastore, 1), some (.aload_n 0, 1), some (.getfield 777, 3), none, none, some (.aload_n 0, 1), some (.getfield 771, 3), none, none, some (.iload_n 3, 1), some (.iastore, 1), some (.aload_n 0, 1), some (.dup, 1)],
  [some (.getfield 771, 3), none, none, some (.iconst 1, 1), some (.iadd, 1), some (.putfield 771, 3), none, none, some (.return_, 1)]])
def mc_X12_office : am_M := (99, false, [
  [some (.aload_n 0, 1), some (.iload_n 1, 1), some (.invokevirtual 29740, 3), none, none, some (.ifCond .eq 11, 3), none, none, some (.aload_n 0, 1), some (.iload_n 2, 1), some (.invokevirtual 29228, 3), none, none, some (.ifCond .ne 6, 3), none, none],
  [some (.bipush (-2), 2), none, some (.ireturn, 1), some (.aload_n 0, 1), some (.getfield 773, 3), none, none, some (.iload_n 1, 1), some (.iaload, 1), some (.istore_n 3, 1), some (.aload_n 0, 1), some (.getfield 773, 3), none, none, some (.iload_n 1, 1), some (.iload_n 2, 1)],
  [some (.iastore, 1), some (.iload_n 3, 1), some (.ireturn, 1)]])
def mc_X12_officeTold : am_M := (99, false, [
  [some (.aload_n 0, 1), some (.iload_n 1, 1), some (.invokevirtual 29740, 3), none, none, some (.ifCond .eq 13, 3), none, none, some (.aload_n 0, 1), some (.iload_n 2, 1), some (.iconst 0, 1), some (.iconst 1, 1), some (.invokevirtual 26956, 3), none, none, some (.ifCond .ne 8, 3)],
  [none, none, some (.bipush (-2), 2), none, some (.goto 22, 3), none, none, some (.iload_n 2, 1), some (.ifCond .ne 12, 3), none, none, some (.aload_n 0, 1), some (.getfield 773, 3), none, none, some (.iload_n 1, 1)],
  [some (.iaload, 1), some (.goto 9, 3), none, none, some (.aload_n 0, 1), some (.getfield 774, 3), none, none, some (.iload_n 1, 1), some (.iaload, 1), some (.ireturn, 1)]])
def mc_X12_ones : am_M := (99, false, [
  [some (.iconst 0, 1), some (.istore_n 2, 1), some (.iload_n 1, 1), some (.istore_n 3, 1), some (.iload_n 3, 1), some (.ifCond .eq 15, 3), none, none, some (.iinc 2 1, 3), none, none, some (.iload_n 3, 1), some (.iload_n 3, 1), some (.iconst 1, 1), some (.isub, 1), some (.iand, 1)],
  [some (.istore_n 3, 1), some (.goto (-13), 3), none, none, some (.iload_n 2, 1), some (.ireturn, 1)]])
def mc_X12_owed : am_M := (99, false, [
  [some (.aload_n 0, 1), some (.iload_n 1, 1), some (.invokevirtual 30764, 3), none, none, some (.ifCond .eq 16, 3), none, none, some (.iload_n 2, 1), some (.iconst (-1), 1), some (.if_icmp .eq 15, 3), none, none, some (.aload_n 0, 1), some (.iload_n 2, 1), some (.invokevirtual 30252, 3)],
  [none, none, some (.ifCond .ne 7, 3), none, none, some (.ldc2_w 13835058055282163712, 3), none, none, some (.lreturn, 1), some (.aload_n 0, 1), some (.iload_n 1, 1), some (.invokevirtual 25900, 3), none, none, some (.istore_n 3, 1), some (.lconst 0, 1)],
  [some (.lstore 4, 2), none, some (.iconst 0, 1), some (.istore 6, 2), none, some (.iload 6, 2), none, some (.aload_n 0, 1), some (.getfield 804, 3), none, none, some (.if_icmp .ge 71, 3), none, none, some (.aload_n 0, 1), some (.aload_n 0, 1)],
  [some (.getfield 805, 3), none, none, some (.iload 6, 2), none, some (.iaload, 1), some (.aload_n 0, 1), some (.getfield 808, 3), none, none, some (.iload 6, 2), none, some (.iaload, 1), some (.iload_n 3, 1), some (.invokevirtual 37964, 3), none],
  [none, some (.istore 7, 2), none, some (.iload 7, 2), none, some (.ifCond .lt 39, 3), none, none, some (.iload 7, 2), none, some (.aload_n 0, 1), some (.getfield 806, 3), none, none, some (.iload 6, 2), none],
  [some (.iaload, 1), some (.if_icmp .eq 27, 3), none, none, some (.iload_n 2, 1), some (.iconst (-1), 1), some (.if_icmp .eq 9, 3), none, none, some (.iload_n 2, 1), some (.iload 7, 2), none, some (.if_icmp .ne 16, 3), none, none, some (.lload 4, 2)],
  [none, some (.aload_n 0, 1), some (.getfield 807, 3), none, none, some (.iload 6, 2), none, some (.iaload, 1), some (.i2l, 1), some (.ladd, 1), some (.lstore 4, 2), none, some (.iinc 6 1, 3), none, none, some (.goto (-74), 3)],
  [none, none, some (.lload 4, 2), none, some (.lreturn, 1)]])
def mc_X12_part : am_M := (99, true, [
  [some (.aload_n 0, 1), some (.iconst 0, 1), some (.putfield 798, 3), none, none, some (.aload_n 0, 1), some (.iconst 0, 1), some (.putfield 799, 3), none, none, some (.aload_n 0, 1), some (.iconst 0, 1), some (.putfield 800, 3), none, none, some (.aload_n 0, 1)],
  [some (.getfield 790, 3), none, none, some (.aload_n 0, 1), some (.getfield 801, 3), none, none, some (.iconst 0, 1), some (.iastore, 1), some (.aload_n 0, 1), some (.getfield 797, 3), none, none, some (.iconst 0, 1), some (.iconst 0, 1), some (.bastore, 1)],
  [some (.iconst 1, 1), some (.istore_n 1, 1), some (.iconst 1, 1), some (.istore_n 2, 1), some (.iload_n 1, 1), some (.ifCond .eq 132, 3), none, none, some (.aload_n 0, 1), some (.iload_n 2, 1), some (.invokevirtual 20268, 3), none, none, some (.ifCond .ne 5, 3), none, none],
  [some (.iconst 0, 1), some (.ireturn, 1), some (.aload_n 0, 1), some (.iconst 4, 1), some (.invokevirtual 28972, 3), none, none, some (.ifCond .eq 12, 3), none, none, some (.aload_n 0, 1), some (.bipush (-3), 2), none, some (.invokevirtual 26668, 3), none, none],
  [some (.goto 98, 3), none, none, some (.aload_n 0, 1), some (.bipush 45, 2), none, some (.invokevirtual 31020, 3), none, none, some (.ifCond .eq 14, 3), none, none, some (.aload_n 0, 1), some (.bipush (-9), 2), none, some (.invokevirtual 26668, 3)],
  [none, none, some (.iconst 0, 1), some (.istore_n 2, 1), some (.goto 78, 3), none, none, some (.aload_n 0, 1), some (.bipush 40, 2), none, some (.invokevirtual 31020, 3), none, none, some (.ifCond .eq 34, 3), none, none],
  [some (.aload_n 0, 1), some (.bipush (-10), 2), none, some (.invokevirtual 26668, 3), none, none, some (.aload_n 0, 1), some (.dup, 1), some (.getfield 799, 3), none, none, some (.iconst 1, 1), some (.iadd, 1), some (.putfield 799, 3), none, none],
  [some (.aload_n 0, 1), some (.getfield 797, 3), none, none, some (.aload_n 0, 1), some (.getfield 799, 3), none, none, some (.iconst 0, 1), some (.bastore, 1), some (.iconst 1, 1), some (.istore_n 2, 1), some (.goto 38, 3), none, none, some (.aload_n 0, 1)],
  [some (.aload_n 0, 1), some (.getfield 793, 3), none, none, some (.iconst 1, 1), some (.if_icmp .ne 10, 3), none, none, some (.aload_n 0, 1), some (.getfield 794, 3), none, none, some (.goto 11, 3), none, none, some (.sipush 10000, 3)],
  [none, none, some (.aload_n 0, 1), some (.getfield 794, 3), none, none, some (.iadd, 1), some (.invokevirtual 36908, 3), none, none, some (.aload_n 0, 1), some (.bipush 7, 2), none, some (.invokevirtual 40492, 3), none, none],
  [some (.iconst 0, 1), some (.istore_n 1, 1), some (.aload_n 0, 1), some (.invokevirtual 34076, 3), none, none, some (.goto (-130), 3), none, none, some (.aload_n 0, 1), some (.bipush 59, 2), none, some (.invokevirtual 31020, 3), none, none, some (.ifCond .eq 21, 3)],
  [none, none, some (.aload_n 0, 1), some (.iconst 1, 1), some (.invokevirtual 40492, 3), none, none, some (.aload_n 0, 1), some (.getfield 799, 3), none, none, some (.ifCond .ne 7, 3), none, none, some (.iconst 1, 1), some (.goto 4, 3)],
  [none, none, some (.iconst 0, 1), some (.ireturn, 1), some (.aload_n 0, 1), some (.bipush 41, 2), none, some (.invokevirtual 31020, 3), none, none, some (.ifCond .eq 60, 3), none, none, some (.aload_n 0, 1), some (.getfield 799, 3), none],
  [none, some (.ifCond .ne 5, 3), none, none, some (.iconst 0, 1), some (.ireturn, 1), some (.aload_n 0, 1), some (.iconst 1, 1), some (.invokevirtual 40492, 3), none, none, some (.aload_n 0, 1), some (.dup, 1), some (.getfield 798, 3), none, none],
  [some (.iconst 1, 1), some (.isub, 1), some (.putfield 798, 3), none, none, some (.aload_n 0, 1), some (.dup, 1), some (.getfield 800, 3), none, none, some (.iconst 1, 1), some (.isub, 1), some (.putfield 800, 3), none, none, some (.aload_n 0, 1)],
  [some (.dup, 1), some (.getfield 799, 3), none, none, some (.iconst 1, 1), some (.isub, 1), some (.putfield 799, 3), none, none, some (.aload_n 0, 1), some (.bipush 7, 2), none, some (.invokevirtual 40492, 3), none, none, some (.aload_n 0, 1)],
  [some (.invokevirtual 34076, 3), none, none, some (.goto (-223), 3), none, none, some (.aload_n 0, 1), some (.invokevirtual 41756, 3), none, none, some (.istore_n 3, 1), some (.iload_n 3, 1), some (.ifCond .eq 24, 3), none, none, some (.aload_n 0, 1)],
  [some (.iload_n 3, 1), some (.invokevirtual 37420, 3), none, none, some (.iconst 4, 1), some (.if_icmp .ne 17, 3), none, none, some (.aload_n 0, 1), some (.getfield 797, 3), none, none, some (.aload_n 0, 1), some (.getfield 799, 3), none, none],
  [some (.baload, 1), some (.ifCond .eq 5, 3), none, none, some (.iconst 0, 1), some (.ireturn, 1), some (.aload_n 0, 1), some (.getfield 797, 3), none, none, some (.aload_n 0, 1), some (.getfield 799, 3), none, none, some (.aload_n 0, 1), some (.iload_n 3, 1)],
  [some (.invokevirtual 37420, 3), none, none, some (.iconst 4, 1), some (.if_icmp .eq 24, 3), none, none, some (.aload_n 0, 1), some (.iload_n 3, 1), some (.invokevirtual 37420, 3), none, none, some (.iconst 2, 1), some (.if_icmp .le 19, 3), none, none],
  [some (.aload_n 0, 1), some (.getfield 797, 3), none, none, some (.aload_n 0, 1), some (.getfield 799, 3), none, none, some (.baload, 1), some (.ifCond .eq 7, 3), none, none, some (.iconst 1, 1), some (.goto 4, 3), none, none],
  [some (.iconst 0, 1), some (.bastore, 1), some (.aload_n 0, 1), some (.aload_n 0, 1), some (.iload_n 3, 1), some (.invokevirtual 37420, 3), none, none, some (.invokevirtual 40492, 3), none, none, some (.aload_n 0, 1), some (.iload_n 3, 1), some (.invokevirtual 26668, 3), none, none],
  [some (.iconst 1, 1), some (.istore_n 1, 1), some (.aload_n 0, 1), some (.iload_n 3, 1), some (.invokevirtual 37420, 3), none, none, some (.iconst 3, 1), some (.if_icmp .ge 7, 3), none, none, some (.iconst 1, 1), some (.goto 4, 3), none, none, some (.iconst 0, 1)],
  [some (.istore_n 2, 1), some (.aload_n 0, 1), some (.invokevirtual 34076, 3), none, none, some (.goto (-337), 3)]])
def mc_X12_pay : am_M := (99, false, [
  [some (.aload_n 0, 1), some (.iload_n 1, 1), some (.invokevirtual 29740, 3), none, none, some (.ifCond .eq 32, 3), none, none, some (.aload_n 0, 1), some (.iload_n 2, 1), some (.invokevirtual 30252, 3), none, none, some (.ifCond .eq 24, 3), none, none],
  [some (.aload_n 0, 1), some (.iload_n 3, 1), some (.iconst 1, 1), some (.sipush 9999, 3), none, none, some (.invokevirtual 26956, 3), none, none, some (.ifCond .eq 12, 3), none, none, some (.aload_n 0, 1), some (.iload 4, 2), none, some (.invokevirtual 28460, 3)],
  [none, none, some (.ifCond .ne 6, 3), none, none, some (.bipush (-2), 2), none, some (.ireturn, 1), some (.aload_n 0, 1), some (.getfield 804, 3), none, none, some (.bipush 30, 2), none, some (.if_icmp .ne 6, 3), none],
  [none, some (.bipush (-4), 2), none, some (.ireturn, 1), some (.aload_n 0, 1), some (.getfield 805, 3), none, none, some (.aload_n 0, 1), some (.getfield 804, 3), none, none, some (.iload_n 1, 1), some (.iastore, 1), some (.aload_n 0, 1), some (.getfield 806, 3)],
  [none, none, some (.aload_n 0, 1), some (.getfield 804, 3), none, none, some (.iload_n 2, 1), some (.iastore, 1), some (.aload_n 0, 1), some (.getfield 807, 3), none, none, some (.aload_n 0, 1), some (.getfield 804, 3), none, none],
  [some (.iload_n 3, 1), some (.iastore, 1), some (.aload_n 0, 1), some (.getfield 808, 3), none, none, some (.aload_n 0, 1), some (.getfield 804, 3), none, none, some (.iload 4, 2), none, some (.iastore, 1), some (.aload_n 0, 1), some (.dup, 1), some (.getfield 804, 3)],
  [none, none, some (.iconst 1, 1), some (.iadd, 1), some (.putfield 804, 3), none, none, some (.aload_n 0, 1), some (.getfield 804, 3), none, none, some (.iconst 1, 1), some (.isub, 1), some (.ireturn, 1)]])
def mc_X12_person : am_M := (99, false, [
  [some (.aload_n 0, 1), some (.iload_n 1, 1), some (.invokevirtual 29228, 3), none, none, some (.ifCond .ne 6, 3), none, none, some (.bipush (-2), 2), none, some (.ireturn, 1), some (.aload_n 0, 1), some (.getfield 770, 3), none, none, some (.bipush 12, 2)],
  [none, some (.if_icmp .ne 6, 3), none, none, some (.bipush (-4), 2), none, some (.ireturn, 1), some (.aload_n 0, 1), some (.getfield 772, 3), none, none, some (.aload_n 0, 1), some (.getfield 770, 3), none, none, some (.iload_n 1, 1)],
  [some (.iastore, 1), some (.aload_n 0, 1), some (.dup, 1), some (.getfield 770, 3), none, none, some (.iconst 1, 1), some (.iadd, 1), some (.putfield 770, 3), none, none, some (.aload_n 0, 1), some (.getfield 770, 3), none, none, some (.iconst 1, 1)],
  [some (.isub, 1), some (.ireturn, 1)]])
def mc_X12_priceOf : am_M := (99, false, [
  [some (.iconst 0, 1), some (.istore_n 2, 1), some (.iconst 0, 1), some (.istore_n 3, 1), some (.iload_n 3, 1), some (.aload_n 0, 1), some (.getfield 809, 3), none, none, some (.if_icmp .ge 31, 3), none, none, some (.iload_n 2, 1), some (.iload_n 1, 1), some (.iload_n 3, 1), some (.ishr, 1)],
  [some (.iconst 1, 1), some (.iand, 1), some (.iconst 1, 1), some (.if_icmp .ne 12, 3), none, none, some (.aload_n 0, 1), some (.getfield 810, 3), none, none, some (.iload_n 3, 1), some (.iaload, 1), some (.goto 4, 3), none, none, some (.iconst 0, 1)],
  [some (.iadd, 1), some (.istore_n 2, 1), some (.iinc 3 1, 3), none, none, some (.goto (-33), 3), none, none, some (.iload_n 2, 1), some (.ireturn, 1)]])
def mc_X12_put : am_M := (99, false, [
  [some (.aload_n 0, 1), some (.getfield 791, 3), none, none, some (.sipush 160, 3), none, none, some (.aload_n 0, 1), some (.getfield 801, 3), none, none, some (.imul, 1), some (.aload_n 0, 1), some (.getfield 790, 3), none, none],
  [some (.aload_n 0, 1), some (.getfield 801, 3), none, none, some (.iaload, 1), some (.iadd, 1), some (.iload_n 1, 1), some (.iastore, 1), some (.aload_n 0, 1), some (.getfield 790, 3), none, none, some (.aload_n 0, 1), some (.getfield 801, 3), none, none],
  [some (.dup2, 1), some (.iaload, 1), some (.iconst 1, 1), some (.iadd, 1), some (.iastore, 1), some (.return_, 1)]])
def mc_X12_quarrels : am_M := (99, false, [
  [some (.aload_n 0, 1), some (.iload_n 1, 1), some (.invokevirtual 28460, 3), none, none, some (.ifCond .ne 6, 3), none, none, some (.bipush (-2), 2), none, some (.ireturn, 1), some (.aload_n 0, 1), some (.iconst 0, 1), some (.invokevirtual 25900, 3), none, none],
  [some (.istore_n 2, 1), some (.aload_n 0, 1), some (.iconst 1, 1), some (.invokevirtual 25900, 3), none, none, some (.istore_n 3, 1), some (.iconst 0, 1), some (.istore 4, 2), none, some (.iconst 0, 1), some (.istore 5, 2), none, some (.iload 5, 2), none, some (.bipush 6, 2)],
  [none, some (.if_icmp .ge 41, 3), none, none, some (.iload 4, 2), none, some (.aload_n 0, 1), some (.iload 5, 2), none, some (.iload_n 1, 1), some (.iload_n 2, 1), some (.invokevirtual 37964, 3), none, none, some (.aload_n 0, 1), some (.iload 5, 2)],
  [none, some (.iload_n 1, 1), some (.iload_n 3, 1), some (.invokevirtual 37964, 3), none, none, some (.if_icmp .ne 7, 3), none, none, some (.iconst 0, 1), some (.goto 7, 3), none, none, some (.iconst 1, 1), some (.iload 5, 2), none],
  [some (.ishl, 1), some (.ior, 1), some (.istore 4, 2), none, some (.iinc 5 1, 3), none, none, some (.goto (-42), 3), none, none, some (.iload 4, 2), none, some (.ireturn, 1)]])
def mc_X12_rank : am_M := (99, false, [
  [some (.iload_n 1, 1), some (.iconst (-1), 1), some (.if_icmp .ne 7, 3), none, none, some (.iconst 1, 1), some (.goto 78, 3), none, none, some (.iload_n 1, 1), some (.bipush (-2), 2), none, some (.if_icmp .ne 7, 3), none, none, some (.iconst 2, 1)],
  [some (.goto 68, 3), none, none, some (.iload_n 1, 1), some (.bipush (-3), 2), none, some (.if_icmp .ne 7, 3), none, none, some (.iconst 3, 1), some (.goto 58, 3), none, none, some (.iload_n 1, 1), some (.bipush (-4), 2), none],
  [some (.if_icmp .eq 9, 3), none, none, some (.iload_n 1, 1), some (.bipush (-5), 2), none, some (.if_icmp .ne 7, 3), none, none, some (.iconst 4, 1), some (.goto 42, 3), none, none, some (.iload_n 1, 1), some (.bipush (-6), 2), none],
  [some (.if_icmp .eq 9, 3), none, none, some (.iload_n 1, 1), some (.bipush (-7), 2), none, some (.if_icmp .ne 7, 3), none, none, some (.iconst 5, 1), some (.goto 26, 3), none, none, some (.iload_n 1, 1), some (.bipush (-8), 2), none],
  [some (.if_icmp .ne 8, 3), none, none, some (.bipush 6, 2), none, some (.goto 15, 3), none, none, some (.iload_n 1, 1), some (.bipush (-9), 2), none, some (.if_icmp .ne 8, 3), none, none, some (.bipush 7, 2), none],
  [some (.goto 4, 3), none, none, some (.iconst 0, 1), some (.ireturn, 1)]])
def mc_X12_rankOf : am_M := (99, false, [
  [some (.aload_n 0, 1), some (.getfield 779, 3), none, none, some (.iload_n 1, 1), some (.iaload, 1), some (.iconst 1, 1), some (.if_icmp .ne 7, 3), none, none, some (.iconst 3, 1), some (.goto 46, 3), none, none, some (.aload_n 0, 1), some (.getfield 779, 3)],
  [none, none, some (.iload_n 1, 1), some (.iaload, 1), some (.iconst 2, 1), some (.if_icmp .ne 7, 3), none, none, some (.iconst 2, 1), some (.goto 32, 3), none, none, some (.aload_n 0, 1), some (.getfield 779, 3), none, none],
  [some (.iload_n 1, 1), some (.iaload, 1), some (.iconst 4, 1), some (.if_icmp .ne 7, 3), none, none, some (.iconst 4, 1), some (.goto 18, 3), none, none, some (.aload_n 0, 1), some (.getfield 779, 3), none, none, some (.iload_n 1, 1), some (.iaload, 1)],
  [some (.iconst 5, 1), some (.if_icmp .ne 7, 3), none, none, some (.iconst 5, 1), some (.goto 4, 3), none, none, some (.iconst 1, 1), some (.ireturn, 1)]])
def mc_X12_rightOf : am_M := (99, false, [
  [some (.aload_n 0, 1), some (.iload_n 1, 1), some (.iload_n 2, 1), some (.iload_n 3, 1), some (.invokevirtual 33868, 3), none, none, some (.istore 4, 2), none, some (.iload 4, 2), none, some (.ifCond .lt 13, 3), none, none, some (.aload_n 0, 1), some (.iload 4, 2)],
  [none, some (.iload_n 2, 1), some (.invokevirtual 30012, 3), none, none, some (.ifCond .ne 7, 3), none, none, some (.iconst (-1), 1), some (.goto 13, 3), none, none, some (.aload_n 0, 1), some (.getfield 781, 3), none, none],
  [some (.iload 4, 2), none, some (.iaload, 1), some (.bipush 12, 2), none, some (.irem, 1), some (.ireturn, 1)]])
def mc_X12_road : am_M := (99, false, [
  [some (.aload_n 0, 1), some (.iload_n 1, 1), some (.invokevirtual 29228, 3), none, none, some (.ifCond .eq 34, 3), none, none, some (.aload_n 0, 1), some (.iload_n 2, 1), some (.invokevirtual 29228, 3), none, none, some (.ifCond .eq 26, 3), none, none],
  [some (.iload_n 1, 1), some (.iload_n 2, 1), some (.if_icmp .eq 21, 3), none, none, some (.aload_n 0, 1), some (.iload_n 3, 1), some (.iconst 1, 1), some (.bipush 99, 2), none, some (.invokevirtual 26956, 3), none, none, some (.ifCond .ne 13, 3), none, none],
  [some (.iload_n 3, 1), some (.sipush 999, 3), none, none, some (.if_icmp .eq 6, 3), none, none, some (.bipush (-2), 2), none, some (.ireturn, 1), some (.aload_n 0, 1), some (.getfield 768, 3), none, none, some (.bipush 8, 2), none],
  [some (.iload_n 1, 1), some (.imul, 1), some (.iload_n 2, 1), some (.iadd, 1), some (.iaload, 1), some (.istore 4, 2), none, some (.aload_n 0, 1), some (.getfield 768, 3), none, none, some (.bipush 8, 2), none, some (.iload_n 1, 1), some (.imul, 1), some (.iload_n 2, 1)],
  [some (.iadd, 1), some (.iload_n 3, 1), some (.iastore, 1), some (.aload_n 0, 1), some (.getfield 768, 3), none, none, some (.bipush 8, 2), none, some (.iload_n 2, 1), some (.imul, 1), some (.iload_n 1, 1), some (.iadd, 1), some (.iload_n 3, 1), some (.iastore, 1), some (.iload 4, 2)],
  [none, some (.ireturn, 1)]])
def mc_X12_rule : am_M := (99, false, [
  [some (.aload_n 0, 1), some (.iload_n 1, 1), some (.invokevirtual 30764, 3), none, none, some (.ifCond .eq 18, 3), none, none, some (.aload_n 0, 1), some (.iload_n 2, 1), some (.iconst 0, 1), some (.aload_n 0, 1), some (.getfield 788, 3), none, none, some (.iconst 1, 1)],
  [some (.isub, 1), some (.invokevirtual 26956, 3), none, none, some (.ifCond .ne 6, 3), none, none, some (.bipush (-2), 2), none, some (.ireturn, 1), some (.aload_n 0, 1), some (.getfield 789, 3), none, none, some (.iload_n 1, 1), some (.iaload, 1)],
  [some (.istore_n 3, 1), some (.aload_n 0, 1), some (.getfield 789, 3), none, none, some (.iload_n 1, 1), some (.iload_n 2, 1), some (.iastore, 1), some (.iload_n 3, 1), some (.ireturn, 1)]])
def mc_X12_ruleZero : am_M := (99, false, [
  [some (.aload_n 0, 1), some (.getfield 790, 3), none, none, some (.iconst 0, 1), some (.iconst 1, 1), some (.iastore, 1), some (.aload_n 0, 1), some (.getfield 791, 3), none, none, some (.iconst 0, 1), some (.sipush 10003, 3), none, none, some (.iastore, 1)],
  [some (.aload_n 0, 1), some (.getfield 790, 3), none, none, some (.iconst 1, 1), some (.iconst 1, 1), some (.iastore, 1), some (.aload_n 0, 1), some (.getfield 791, 3), none, none, some (.sipush 160, 3), none, none, some (.sipush 10005, 3), none],
  [none, some (.iastore, 1), some (.return_, 1)]])
def mc_X12_savedBy : am_M := (99, false, [
  [some (.iconst 0, 1), some (.istore_n 2, 1), some (.iconst 0, 1), some (.istore_n 3, 1), some (.iload_n 3, 1), some (.aload_n 0, 1), some (.getfield 778, 3), none, none, some (.if_icmp .ge 29, 3), none, none, some (.iload_n 2, 1), some (.aload_n 0, 1), some (.iload_n 1, 1), some (.iload_n 3, 1)],
  [some (.iconst 1, 1), some (.invokevirtual 20556, 3), none, none, some (.ifCond .eq 9, 3), none, none, some (.iconst 1, 1), some (.iload_n 3, 1), some (.ishl, 1), some (.goto 4, 3), none, none, some (.iconst 0, 1), some (.ior, 1), some (.istore_n 2, 1)],
  [some (.iinc 3 1, 3), none, none, some (.goto (-31), 3), none, none, some (.iload_n 2, 1), some (.ireturn, 1)]])
def mc_X12_says : am_M := (99, false, [
  [some (.aload_n 0, 1), some (.iload_n 1, 1), some (.invokevirtual 30764, 3), none, none, some (.ifCond .eq 32, 3), none, none, some (.aload_n 0, 1), some (.iload_n 2, 1), some (.invokevirtual 27692, 3), none, none, some (.ifCond .eq 24, 3), none, none],
  [some (.aload_n 0, 1), some (.iload_n 3, 1), some (.iconst 0, 1), some (.iconst 1, 1), some (.invokevirtual 26956, 3), none, none, some (.ifCond .eq 14, 3), none, none, some (.aload_n 0, 1), some (.iload_n 1, 1), some (.iload_n 2, 1), some (.iload_n 3, 1), some (.invokevirtual 20556, 3), none],
  [none, some (.i2l, 1), some (.goto 6, 3), none, none, some (.ldc2_w 13835058055282163712, 3), none, none, some (.lreturn, 1)]])
def mc_X12_seat : am_M := (99, false, [
  [some (.aload_n 0, 1), some (.iload_n 1, 1), some (.invokevirtual 29740, 3), none, none, some (.ifCond .eq 16, 3), none, none, some (.iload_n 2, 1), some (.iconst (-1), 1), some (.if_icmp .eq 14, 3), none, none, some (.aload_n 0, 1), some (.iload_n 2, 1), some (.invokevirtual 30252, 3)],
  [none, none, some (.ifCond .ne 6, 3), none, none, some (.bipush (-5), 2), none, some (.ireturn, 1), some (.aload_n 0, 1), some (.getfield 774, 3), none, none, some (.iload_n 1, 1), some (.iaload, 1), some (.istore_n 3, 1), some (.aload_n 0, 1)],
  [some (.getfield 774, 3), none, none, some (.iload_n 1, 1), some (.iload_n 2, 1), some (.iastore, 1), some (.iload_n 3, 1), some (.ireturn, 1)]])
def mc_X12_seats : am_M := (99, false, [
  [some (.aload_n 0, 1), some (.iload_n 1, 1), some (.invokevirtual 29228, 3), none, none, some (.ifCond .eq 14, 3), none, none, some (.aload_n 0, 1), some (.iload_n 2, 1), some (.iconst 0, 1), some (.bipush 99, 2), none, some (.invokevirtual 26956, 3), none, none],
  [some (.ifCond .ne 6, 3), none, none, some (.bipush (-2), 2), none, some (.ireturn, 1), some (.aload_n 0, 1), some (.getfield 813, 3), none, none, some (.iload_n 1, 1), some (.iaload, 1), some (.istore_n 3, 1), some (.aload_n 0, 1), some (.getfield 813, 3), none],
  [none, some (.iload_n 1, 1), some (.iload_n 2, 1), some (.iastore, 1), some (.iload_n 3, 1), some (.ireturn, 1)]])
def mc_X12_seatsOf : am_M := (99, false, [
  [some (.iconst 0, 1), some (.istore 4, 2), none, some (.iconst 0, 1), some (.istore 5, 2), none, some (.iload 5, 2), none, some (.bipush 8, 2), none, some (.if_icmp .ge 50, 3), none, none, some (.iload 4, 2), none, some (.iload_n 1, 1)],
  [some (.iload 5, 2), none, some (.ishr, 1), some (.iconst 1, 1), some (.iand, 1), some (.iconst 1, 1), some (.if_icmp .ne 28, 3), none, none, some (.iload_n 2, 1), some (.ifCond .lt 14, 3), none, none, some (.aload_n 0, 1), some (.iload 5, 2), none],
  [some (.iload_n 3, 1), some (.invokevirtual 41532, 3), none, none, some (.iload_n 2, 1), some (.if_icmp .ne 13, 3), none, none, some (.aload_n 0, 1), some (.getfield 813, 3), none, none, some (.iload 5, 2), none, some (.iaload, 1), some (.goto 4, 3)],
  [none, none, some (.iconst 0, 1), some (.iadd, 1), some (.istore 4, 2), none, some (.iinc 5 1, 3), none, none, some (.goto (-51), 3), none, none, some (.iload 4, 2), none, some (.ireturn, 1)]])
def mc_X12_seatsRow : am_M := (99, false, [
  [some (.aload_n 0, 1), some (.iload_n 1, 1), some (.invokevirtual 30508, 3), none, none, some (.ifCond .eq 25, 3), none, none, some (.aload_n 0, 1), some (.iload_n 2, 1), some (.iconst 0, 1), some (.iconst 2, 1), some (.invokevirtual 26956, 3), none, none, some (.ifCond .eq 15, 3)],
  [none, none, some (.aload_n 0, 1), some (.iload 4, 2), none, some (.iconst 0, 1), some (.bipush 8, 2), none, some (.invokevirtual 26956, 3), none, none, some (.ifCond .ne 6, 3), none, none, some (.bipush (-2), 2), none],
  [some (.ireturn, 1), some (.aload_n 0, 1), some (.getfield 823, 3), none, none, some (.iload_n 1, 1), some (.iaload, 1), some (.ifCond .lt 16, 3), none, none, some (.aload_n 0, 1), some (.getfield 823, 3), none, none, some (.iload_n 1, 1), some (.iaload, 1)],
  [some (.iload_n 2, 1), some (.if_icmp .eq 6, 3), none, none, some (.bipush (-13), 2), none, some (.ireturn, 1), some (.aload_n 0, 1), some (.getfield 823, 3), none, none, some (.iload_n 1, 1), some (.iaload, 1), some (.ifCond .ge 6, 3), none, none],
  [some (.bipush (-11), 2), none, some (.ireturn, 1), some (.iconst 0, 1), some (.istore 5, 2), none, some (.iconst 0, 1), some (.istore 6, 2), none, some (.iload 6, 2), none, some (.iload 4, 2), none, some (.if_icmp .ge 64, 3), none, none],
  [some (.iload_n 3, 1), some (.ifCond .lt 18, 3), none, none, some (.iload_n 3, 1), some (.aload_n 0, 1), some (.getfield 824, 3), none, none, some (.iload_n 1, 1), some (.iaload, 1), some (.iload 6, 2), none, some (.isub, 1), some (.iconst 1, 1), some (.isub, 1)],
  [some (.if_icmp .le 6, 3), none, none, some (.bipush (-12), 2), none, some (.ireturn, 1), some (.iload 5, 2), none, some (.aload_n 0, 1), some (.iload 6, 2), none, some (.aload_n 0, 1), some (.getfield 825, 3), none, none, some (.bipush 40, 2)],
  [none, some (.iload_n 1, 1), some (.imul, 1), some (.iload_n 3, 1), some (.iadd, 1), some (.iload 6, 2), none, some (.iadd, 1), some (.iaload, 1), some (.invokevirtual 39740, 3), none, none, some (.ifCond .lt 7, 3), none, none, some (.iconst 1, 1)],
  [some (.goto 4, 3), none, none, some (.iconst 0, 1), some (.iadd, 1), some (.istore 5, 2), none, some (.iinc 6 1, 3), none, none, some (.goto (-65), 3), none, none, some (.iload 5, 2), none, some (.ireturn, 1)]])
def mc_X12_settle : am_M := (99, false, [
  [some (.aload_n 0, 1), some (.getfield 798, 3), none, none, some (.ifCond .le 86, 3), none, none, some (.aload_n 0, 1), some (.aload_n 0, 1), some (.getfield 796, 3), none, none, some (.aload_n 0, 1), some (.getfield 798, 3), none, none],
  [some (.iconst 1, 1), some (.isub, 1), some (.iaload, 1), some (.invokevirtual 37420, 3), none, none, some (.iload_n 1, 1), some (.if_icmp .lt 67, 3), none, none, some (.aload_n 0, 1), some (.dup, 1), some (.getfield 798, 3), none, none, some (.iconst 1, 1)],
  [some (.isub, 1), some (.putfield 798, 3), none, none, some (.aload_n 0, 1), some (.aload_n 0, 1), some (.getfield 796, 3), none, none, some (.aload_n 0, 1), some (.getfield 798, 3), none, none, some (.iaload, 1), some (.invokevirtual 36908, 3), none],
  [none, some (.aload_n 0, 1), some (.getfield 796, 3), none, none, some (.aload_n 0, 1), some (.getfield 798, 3), none, none, some (.iaload, 1), some (.bipush (-3), 2), none, some (.if_icmp .eq 17, 3), none, none, some (.aload_n 0, 1)],
  [some (.getfield 796, 3), none, none, some (.aload_n 0, 1), some (.getfield 798, 3), none, none, some (.iaload, 1), some (.bipush (-9), 2), none, some (.if_icmp .ne (-74), 3), none, none, some (.aload_n 0, 1), some (.dup, 1), some (.getfield 800, 3)],
  [none, none, some (.iconst 1, 1), some (.isub, 1), some (.putfield 800, 3), none, none, some (.goto (-87), 3), none, none, some (.return_, 1)]])
def mc_X12_settling : am_M := (99, false, [
  [some (.aload_n 0, 1), some (.iload_n 1, 1), some (.iconst 0, 1), some (.bipush 8, 2), none, some (.invokevirtual 26956, 3), none, none, some (.ifCond .eq 13, 3), none, none, some (.aload_n 0, 1), some (.iload_n 2, 1), some (.iconst 0, 1), some (.iconst 2, 1), some (.invokevirtual 26956, 3)],
  [none, none, some (.ifCond .ne 6, 3), none, none, some (.bipush (-2), 2), none, some (.ireturn, 1), some (.aload_n 0, 1), some (.iconst 2, 1), some (.invokevirtual 25900, 3), none, none, some (.istore_n 3, 1), some (.iconst 0, 1), some (.istore 4, 2)],
  [none, some (.iconst 1, 1), some (.istore 5, 2), none, some (.iload 5, 2), none, some (.iconst 1, 1), some (.aload_n 0, 1), some (.getfield 814, 3), none, none, some (.ishl, 1), some (.if_icmp .ge 48, 3), none, none, some (.aload_n 0, 1)],
  [some (.iload 5, 2), none, some (.invokevirtual 25644, 3), none, none, some (.ifCond .eq 33, 3), none, none, some (.aload_n 0, 1), some (.aload_n 0, 1), some (.iload 5, 2), none, some (.invokevirtual 42540, 3), none, none, some (.invokevirtual 35372, 3)],
  [none, none, some (.iload_n 1, 1), some (.if_icmp .lt 19, 3), none, none, some (.aload_n 0, 1), some (.iload 5, 2), none, some (.iload 4, 2), none, some (.iload_n 3, 1), some (.invokevirtual 27980, 3), none, none, some (.ifCond .eq 7, 3)],
  [none, none, some (.iload 5, 2), none, some (.istore 4, 2), none, some (.iinc 5 1, 3), none, none, some (.goto (-53), 3), none, none, some (.iload_n 2, 1), some (.ifCond .ne 8, 3), none, none],
  [some (.iload 4, 2), none, some (.goto 24, 3), none, none, some (.iload_n 2, 1), some (.iconst 1, 1), some (.if_icmp .ne 13, 3), none, none, some (.aload_n 0, 1), some (.iload 4, 2), none, some (.iload_n 3, 1), some (.invokevirtual 43324, 3), none],
  [none, some (.goto 9, 3), none, none, some (.aload_n 0, 1), some (.iload 4, 2), none, some (.invokevirtual 42540, 3), none, none, some (.ireturn, 1)]])
def mc_X12_sheet : am_M := (99, false, [
  [some (.aload_n 0, 1), some (.iload_n 1, 1), some (.invokevirtual 30508, 3), none, none, some (.ifCond .eq 23, 3), none, none, some (.aload_n 0, 1), some (.iload_n 2, 1), some (.iconst (-1), 1), some (.iconst 2, 1), some (.invokevirtual 26956, 3), none, none, some (.ifCond .eq 13, 3)],
  [none, none, some (.iload_n 2, 1), some (.ifCond .lt 12, 3), none, none, some (.iload_n 3, 1), some (.bipush 40, 2), none, some (.if_icmp .le 6, 3), none, none, some (.bipush (-2), 2), none, some (.ireturn, 1), some (.iload_n 2, 1)],
  [some (.ifCond .lt 10, 3), none, none, some (.iload_n 3, 1), some (.ifCond .ge 6, 3), none, none, some (.bipush (-14), 2), none, some (.ireturn, 1), some (.aload_n 0, 1), some (.getfield 823, 3), none, none, some (.iload_n 1, 1), some (.iload_n 2, 1)],
  [some (.iastore, 1), some (.aload_n 0, 1), some (.getfield 824, 3), none, none, some (.iload_n 1, 1), some (.iload_n 2, 1), some (.ifCond .ge 7, 3), none, none, some (.iconst 0, 1), some (.goto 4, 3), none, none, some (.iload_n 3, 1), some (.iastore, 1)],
  [some (.iconst 0, 1), some (.istore 4, 2), none, some (.iload 4, 2), none, some (.bipush 40, 2), none, some (.if_icmp .ge 22, 3), none, none, some (.aload_n 0, 1), some (.getfield 825, 3), none, none, some (.bipush 40, 2), none],
  [some (.iload_n 1, 1), some (.imul, 1), some (.iload 4, 2), none, some (.iadd, 1), some (.iconst 0, 1), some (.iastore, 1), some (.iinc 4 1, 3), none, none, some (.goto (-23), 3), none, none, some (.iconst 1, 1), some (.ireturn, 1)]])
def mc_X12_side : am_M := (99, false, [
  [some (.aload_n 0, 1), some (.iload_n 1, 1), some (.invokevirtual 29228, 3), none, none, some (.ifCond .eq 20, 3), none, none, some (.aload_n 0, 1), some (.iload_n 2, 1), some (.invokevirtual 28460, 3), none, none, some (.ifCond .eq 12, 3), none, none],
  [some (.aload_n 0, 1), some (.iload_n 1, 1), some (.iload_n 2, 1), some (.invokevirtual 41532, 3), none, none, some (.goto 5, 3), none, none, some (.bipush (-2), 2), none, some (.ireturn, 1)]])
def mc_X12_sideOf : am_M := (99, false, [
  [some (.iconst (-1), 1), some (.istore_n 3, 1), some (.iconst 0, 1), some (.istore 4, 2), none, some (.iload 4, 2), none, some (.aload_n 0, 1), some (.getfield 771, 3), none, none, some (.if_icmp .ge 54, 3), none, none, some (.aload_n 0, 1), some (.getfield 775, 3)],
  [none, none, some (.iload 4, 2), none, some (.iaload, 1), some (.iload_n 1, 1), some (.if_icmp .ne 37, 3), none, none, some (.aload_n 0, 1), some (.getfield 776, 3), none, none, some (.iload 4, 2), none, some (.iaload, 1)],
  [some (.iload_n 2, 1), some (.if_icmp .gt 26, 3), none, none, some (.iload_n 3, 1), some (.ifCond .lt 19, 3), none, none, some (.aload_n 0, 1), some (.getfield 776, 3), none, none, some (.iload 4, 2), none, some (.iaload, 1), some (.aload_n 0, 1)],
  [some (.getfield 776, 3), none, none, some (.iload_n 3, 1), some (.iaload, 1), some (.if_icmp .lt 6, 3), none, none, some (.iload 4, 2), none, some (.istore_n 3, 1), some (.iinc 4 1, 3), none, none, some (.goto (-57), 3), none],
  [none, some (.iload_n 3, 1), some (.ifCond .ge 7, 3), none, none, some (.iconst 0, 1), some (.goto 9, 3), none, none, some (.aload_n 0, 1), some (.getfield 777, 3), none, none, some (.iload_n 3, 1), some (.iaload, 1), some (.ireturn, 1)]])
def mc_X12_signOf : am_M := (99, false, [
  [some (.aload_n 0, 1), some (.iconst 2, 1), some (.invokevirtual 28972, 3), none, none, some (.ifCond .eq 7, 3), none, none, some (.iconst (-1), 1), some (.goto 87, 3), none, none, some (.aload_n 0, 1), some (.iconst 3, 1), some (.invokevirtual 28972, 3), none],
  [none, some (.ifCond .eq 8, 3), none, none, some (.bipush (-2), 2), none, some (.goto 74, 3), none, none, some (.aload_n 0, 1), some (.bipush 60, 2), none, some (.invokevirtual 31020, 3), none, none, some (.ifCond .eq 8, 3)],
  [none, none, some (.bipush (-4), 2), none, some (.goto 60, 3), none, none, some (.aload_n 0, 1), some (.bipush 61, 2), none, some (.invokevirtual 31020, 3), none, none, some (.ifCond .eq 8, 3), none, none],
  [some (.bipush (-5), 2), none, some (.goto 46, 3), none, none, some (.aload_n 0, 1), some (.bipush 43, 2), none, some (.invokevirtual 31020, 3), none, none, some (.ifCond .eq 8, 3), none, none, some (.bipush (-6), 2), none],
  [some (.goto 32, 3), none, none, some (.aload_n 0, 1), some (.bipush 45, 2), none, some (.invokevirtual 31020, 3), none, none, some (.ifCond .eq 8, 3), none, none, some (.bipush (-7), 2), none, some (.goto 18, 3), none],
  [none, some (.aload_n 0, 1), some (.bipush 42, 2), none, some (.invokevirtual 31020, 3), none, none, some (.ifCond .eq 8, 3), none, none, some (.bipush (-8), 2), none, some (.goto 4, 3), none, none, some (.iconst 0, 1)],
  [some (.ireturn, 1)]])
def mc_X12_soundBy : am_M := (99, false, [
  [some (.iconst 0, 1), some (.istore_n 2, 1), some (.iconst 0, 1), some (.istore_n 3, 1), some (.iload_n 3, 1), some (.aload_n 0, 1), some (.getfield 778, 3), none, none, some (.if_icmp .ge 29, 3), none, none, some (.iload_n 2, 1), some (.aload_n 0, 1), some (.iload_n 1, 1), some (.iload_n 3, 1)],
  [some (.iconst 0, 1), some (.invokevirtual 20556, 3), none, none, some (.ifCond .eq 9, 3), none, none, some (.iconst 1, 1), some (.iload_n 3, 1), some (.ishl, 1), some (.goto 4, 3), none, none, some (.iconst 0, 1), some (.ior, 1), some (.istore_n 2, 1)],
  [some (.iinc 3 1, 3), none, none, some (.goto (-31), 3), none, none, some (.iload_n 2, 1), some (.ireturn, 1)]])
def mc_X12_taken : am_M := (99, false, [
  [some (.aload_n 0, 1), some (.iload_n 2, 1), some (.iconst 0, 1), some (.iconst 5, 1), some (.invokevirtual 26956, 3), none, none, some (.ifCond .ne 6, 3), none, none, some (.bipush (-2), 2), none, some (.ireturn, 1), some (.aload_n 0, 1), some (.iload_n 1, 1), some (.invokevirtual 27692, 3)],
  [none, none, some (.ifCond .ne 6, 3), none, none, some (.bipush (-11), 2), none, some (.ireturn, 1), some (.aload_n 0, 1), some (.aload_n 0, 1), some (.getfield 779, 3), none, none, some (.iload_n 1, 1), some (.iaload, 1), some (.iload_n 2, 1)],
  [some (.invokevirtual 31804, 3), none, none, some (.ifCond .eq 11, 3), none, none, some (.aload_n 0, 1), some (.iload_n 1, 1), some (.invokevirtual 37676, 3), none, none, some (.goto 5, 3), none, none, some (.bipush (-13), 2), none],
  [some (.ireturn, 1)]])
def mc_X12_takersOf : am_M := (99, false, [
  [some (.iconst 0, 1), some (.istore_n 2, 1), some (.iconst 0, 1), some (.istore_n 3, 1), some (.iload_n 3, 1), some (.bipush 8, 2), none, some (.if_icmp .ge 76, 3), none, none, some (.iconst 0, 1), some (.istore 4, 2), none, some (.iconst 0, 1), some (.istore 5, 2), none],
  [some (.iload 5, 2), none, some (.aload_n 0, 1), some (.getfield 814, 3), none, none, some (.if_icmp .ge 40, 3), none, none, some (.iload 4, 2), none, some (.iload_n 1, 1), some (.iload 5, 2), none, some (.ishr, 1), some (.iconst 1, 1)],
  [some (.iand, 1), some (.iconst 1, 1), some (.if_icmp .ne 18, 3), none, none, some (.aload_n 0, 1), some (.getfield 816, 3), none, none, some (.bipush 8, 2), none, some (.iload 5, 2), none, some (.imul, 1), some (.iload_n 3, 1), some (.iadd, 1)],
  [some (.iaload, 1), some (.goto 4, 3), none, none, some (.iconst 0, 1), some (.iadd, 1), some (.istore 4, 2), none, some (.iinc 5 1, 3), none, none, some (.goto (-43), 3), none, none, some (.iload_n 2, 1), some (.iload 4, 2)],
  [none, some (.ifCond .ge 7, 3), none, none, some (.iconst 0, 1), some (.goto 6, 3), none, none, some (.iconst 1, 1), some (.iload_n 3, 1), some (.ishl, 1), some (.ior, 1), some (.istore_n 2, 1), some (.iinc 3 1, 3), none, none],
  [some (.goto (-76), 3), none, none, some (.iload_n 2, 1), some (.ireturn, 1)]])
def mc_X12_text : am_M := (99, false, [
  [some (.aload_n 0, 1), some (.getfield 788, 3), none, none, some (.bipush 6, 2), none, some (.if_icmp .ne 6, 3), none, none, some (.bipush (-4), 2), none, some (.ireturn, 1), some (.aload_n 0, 1), some (.invokevirtual 31260, 3), none, none],
  [some (.istore_n 1, 1), some (.aload_n 0, 1), some (.getfield 795, 3), none, none, some (.istore_n 2, 1), some (.aload_n 0, 1), some (.iconst 0, 1), some (.putfield 787, 3), none, none, some (.iload_n 1, 1), some (.ifCond .ne 8, 3), none, none, some (.bipush (-100), 2)],
  [none, some (.iload_n 2, 1), some (.isub, 1), some (.ireturn, 1), some (.aload_n 0, 1), some (.dup, 1), some (.getfield 788, 3), none, none, some (.iconst 1, 1), some (.iadd, 1), some (.putfield 788, 3), none, none, some (.aload_n 0, 1), some (.getfield 788, 3)],
  [none, none, some (.iconst 1, 1), some (.isub, 1), some (.ireturn, 1)]])
def mc_X12_turn : am_M := (99, false, [
  [some (.aload_n 0, 1), some (.iload_n 1, 1), some (.iload_n 2, 1), some (.iload_n 3, 1), some (.invokevirtual 31564, 3), none, none, some (.ifCond .ne 6, 3), none, none, some (.bipush (-2), 2), none, some (.ireturn, 1), some (.aload_n 0, 1), some (.getfield 771, 3), none],
  [none, some (.bipush 30, 2), none, some (.if_icmp .ne 6, 3), none, none, some (.bipush (-4), 2), none, some (.ireturn, 1), some (.aload_n 0, 1), some (.iload_n 1, 1), some (.iload_n 2, 1), some (.iload_n 3, 1), some (.invokevirtual 34636, 3), none, none],
  [some (.aload_n 0, 1), some (.getfield 771, 3), none, none, some (.iconst 1, 1), some (.isub, 1), some (.ireturn, 1)]])
def mc_X12_undoneBy : am_M := (99, false, [
  [some (.iconst 0, 1), some (.istore_n 3, 1), some (.iconst 0, 1), some (.istore 4, 2), none, some (.iload 4, 2), none, some (.aload_n 0, 1), some (.getfield 814, 3), none, none, some (.if_icmp .ge 33, 3), none, none, some (.iload_n 3, 1), some (.iload_n 1, 1)],
  [some (.iload 4, 2), none, some (.ishr, 1), some (.iconst 1, 1), some (.iand, 1), some (.iconst 1, 1), some (.if_icmp .ne 13, 3), none, none, some (.aload_n 0, 1), some (.getfield 815, 3), none, none, some (.iload 4, 2), none, some (.iaload, 1)],
  [some (.goto 4, 3), none, none, some (.iconst 0, 1), some (.ior, 1), some (.istore_n 3, 1), some (.iinc 4 1, 3), none, none, some (.goto (-36), 3), none, none, some (.aload_n 0, 1), some (.iload_n 3, 1), some (.iload_n 2, 1), some (.iand, 1)],
  [some (.invokevirtual 35372, 3), none, none, some (.ireturn, 1)]])
def mc_X12_wonBy : am_M := (99, false, [
  [some (.iload_n 1, 1), some (.istore_n 2, 1), some (.iconst 0, 1), some (.istore_n 3, 1), some (.iconst 0, 1), some (.istore 4, 2), none, some (.iconst 0, 1), some (.istore 5, 2), none, some (.iload 5, 2), none, some (.aload_n 0, 1), some (.getfield 822, 3), none, none],
  [some (.if_icmp .ge 85, 3), none, none, some (.aload_n 0, 1), some (.getfield 769, 3), none, none, some (.bipush 8, 2), none, some (.iload_n 2, 1), some (.imul, 1), some (.aload_n 0, 1), some (.getfield 821, 3), none, none, some (.aload_n 0, 1)],
  [some (.getfield 819, 3), none, none, some (.iload 5, 2), none, some (.iaload, 1), some (.iaload, 1), some (.iadd, 1), some (.iaload, 1), some (.istore 6, 2), none, some (.iload 6, 2), none, some (.sipush 999, 3), none, none],
  [some (.if_icmp .lt 6, 3), none, none, some (.iload 4, 2), none, some (.ireturn, 1), some (.iload_n 3, 1), some (.iload 6, 2), none, some (.iadd, 1), some (.istore_n 3, 1), some (.aload_n 0, 1), some (.getfield 821, 3), none, none, some (.aload_n 0, 1)],
  [some (.getfield 819, 3), none, none, some (.iload 5, 2), none, some (.iaload, 1), some (.iaload, 1), some (.istore_n 2, 1), some (.iload 4, 2), none, some (.iload_n 3, 1), some (.aload_n 0, 1), some (.getfield 818, 3), none, none, some (.iload_n 2, 1)],
  [some (.iaload, 1), some (.if_icmp .gt 7, 3), none, none, some (.iconst 1, 1), some (.goto 4, 3), none, none, some (.iconst 0, 1), some (.iadd, 1), some (.istore 4, 2), none, some (.iinc 3 3, 3), none, none, some (.iinc 5 1, 3)],
  [none, none, some (.goto (-88), 3), none, none, some (.iload 4, 2), none, some (.ireturn, 1)]])
def mc_X12_wordToken : am_M := (99, false, [
  [some (.aload_n 0, 1), some (.getfield 792, 3), none, none, some (.aload_n 0, 1), some (.getfield 787, 3), none, none, some (.if_icmp .ge 32, 3), none, none, some (.aload_n 0, 1), some (.aload_n 0, 1), some (.getfield 786, 3), none, none],
  [some (.aload_n 0, 1), some (.getfield 792, 3), none, none, some (.baload, 1), some (.invokevirtual 29484, 3), none, none, some (.ifCond .eq 16, 3), none, none, some (.aload_n 0, 1), some (.dup, 1), some (.getfield 792, 3), none, none],
  [some (.iconst 1, 1), some (.iadd, 1), some (.putfield 792, 3), none, none, some (.goto (-37), 3), none, none, some (.aload_n 0, 1), some (.iconst 2, 1), some (.putfield 793, 3), none, none, some (.aload_n 0, 1), some (.aload_n 0, 1), some (.ldc2_w 370116, 3)],
  [none, none, some (.invokevirtual 32044, 3), none, none, some (.ifCond .eq 7, 3), none, none, some (.iconst 0, 1), some (.goto 74, 3), none, none, some (.aload_n 0, 1), some (.ldc2_w 4153, 3), none, none],
  [some (.invokevirtual 32044, 3), none, none, some (.ifCond .eq 7, 3), none, none, some (.iconst 1, 1), some (.goto 60, 3), none, none, some (.aload_n 0, 1), some (.ldc2_w 591307, 3), none, none, some (.invokevirtual 32044, 3), none],
  [none, some (.ifCond .eq 7, 3), none, none, some (.iconst 2, 1), some (.goto 46, 3), none, none, some (.aload_n 0, 1), some (.ldc2_w 624037, 3), none, none, some (.invokevirtual 32044, 3), none, none, some (.ifCond .eq 7, 3)],
  [none, none, some (.iconst 3, 1), some (.goto 32, 3), none, none, some (.aload_n 0, 1), some (.ldc2_w 8435955, 3), none, none, some (.invokevirtual 32044, 3), none, none, some (.ifCond .eq 7, 3), none, none],
  [some (.iconst 4, 1), some (.goto 18, 3), none, none, some (.aload_n 0, 1), some (.ldc2_w 6334088, 3), none, none, some (.invokevirtual 32044, 3), none, none, some (.ifCond .eq 7, 3), none, none, some (.iconst 5, 1), some (.goto 4, 3)],
  [none, none, some (.iconst (-1), 1), some (.putfield 794, 3), none, none, some (.aload_n 0, 1), some (.getfield 794, 3), none, none, some (.ifCond .lt 4, 3), none, none, some (.return_, 1), some (.aload_n 0, 1), some (.iconst 3, 1)],
  [some (.putfield 793, 3), none, none, some (.aload_n 0, 1), some (.aload_n 0, 1), some (.ldc2_w 2406547, 3), none, none, some (.invokevirtual 32044, 3), none, none, some (.ifCond .eq 7, 3), none, none, some (.iconst 0, 1), some (.goto 60, 3)],
  [none, none, some (.aload_n 0, 1), some (.ldc2_w 19978404, 3), none, none, some (.invokevirtual 32044, 3), none, none, some (.ifCond .eq 7, 3), none, none, some (.iconst 1, 1), some (.goto 46, 3), none, none],
  [some (.aload_n 0, 1), some (.ldc2_w 498, 3), none, none, some (.invokevirtual 32044, 3), none, none, some (.ifCond .eq 7, 3), none, none, some (.iconst 2, 1), some (.goto 32, 3), none, none, some (.aload_n 0, 1), some (.ldc2_w 1476, 3)],
  [none, none, some (.invokevirtual 32044, 3), none, none, some (.ifCond .eq 7, 3), none, none, some (.iconst 3, 1), some (.goto 18, 3), none, none, some (.aload_n 0, 1), some (.ldc2_w 14836, 3), none, none],
  [some (.invokevirtual 32044, 3), none, none, some (.ifCond .eq 7, 3), none, none, some (.iconst 4, 1), some (.goto 4, 3), none, none, some (.iconst (-1), 1), some (.putfield 794, 3), none, none, some (.aload_n 0, 1), some (.getfield 794, 3)],
  [none, none, some (.ifCond .ge 8, 3), none, none, some (.aload_n 0, 1), some (.iconst 5, 1), some (.putfield 793, 3), none, none, some (.return_, 1)]])
def mc_X12_work : am_M := (99, false, [
  [some (.iconst 2, 1), some (.iload_n 1, 1), some (.imul, 1), some (.iload_n 2, 1), some (.iadd, 1), some (.istore_n 3, 1), some (.iconst 0, 1), some (.istore 4, 2), none, some (.iconst 0, 1), some (.istore 5, 2), none, some (.iload 5, 2), none, some (.aload_n 0, 1), some (.getfield 790, 3)],
  [none, none, some (.iload_n 3, 1), some (.iaload, 1), some (.if_icmp .ge 163, 3), none, none, some (.aload_n 0, 1), some (.getfield 791, 3), none, none, some (.sipush 160, 3), none, none, some (.iload_n 3, 1), some (.imul, 1)],
  [some (.iload 5, 2), none, some (.iadd, 1), some (.iaload, 1), some (.istore 6, 2), none, some (.iload 6, 2), none, some (.ifCond .lt 40, 3), none, none, some (.aload_n 0, 1), some (.getfield 803, 3), none, none, some (.iload 4, 2)],
  [none, some (.iload 6, 2), none, some (.sipush 10000, 3), none, none, some (.if_icmp .ge 8, 3), none, none, some (.iload 6, 2), none, some (.goto 14, 3), none, none, some (.aload_n 0, 1), some (.getfield 802, 3)],
  [none, none, some (.iload 6, 2), none, some (.sipush 10000, 3), none, none, some (.isub, 1), some (.iaload, 1), some (.iastore, 1), some (.iinc 4 1, 3), none, none, some (.goto 100, 3), none, none],
  [some (.iload 6, 2), none, some (.bipush (-3), 2), none, some (.if_icmp .eq 10, 3), none, none, some (.iload 6, 2), none, some (.bipush (-9), 2), none, some (.if_icmp .ne 52, 3), none, none, some (.aload_n 0, 1), some (.getfield 803, 3)],
  [none, none, some (.iload 4, 2), none, some (.iconst 1, 1), some (.isub, 1), some (.iload 6, 2), none, some (.bipush (-9), 2), none, some (.if_icmp .ne 16, 3), none, none, some (.aload_n 0, 1), some (.getfield 803, 3), none],
  [none, some (.iload 4, 2), none, some (.iconst 1, 1), some (.isub, 1), some (.iaload, 1), some (.ineg, 1), some (.goto 20, 3), none, none, some (.aload_n 0, 1), some (.getfield 803, 3), none, none, some (.iload 4, 2), none],
  [some (.iconst 1, 1), some (.isub, 1), some (.iaload, 1), some (.ifCond .ne 7, 3), none, none, some (.iconst 1, 1), some (.goto 4, 3), none, none, some (.iconst 0, 1), some (.iastore, 1), some (.goto 37, 3), none, none, some (.iinc 4 (-1), 3)],
  [none, none, some (.aload_n 0, 1), some (.getfield 803, 3), none, none, some (.iload 4, 2), none, some (.iconst 1, 1), some (.isub, 1), some (.aload_n 0, 1), some (.iload 6, 2), none, some (.aload_n 0, 1), some (.getfield 803, 3), none],
  [none, some (.iload 4, 2), none, some (.iconst 1, 1), some (.isub, 1), some (.iaload, 1), some (.aload_n 0, 1), some (.getfield 803, 3), none, none, some (.iload 4, 2), none, some (.iaload, 1), some (.invokevirtual 20812, 3), none, none],
  [some (.iastore, 1), some (.iinc 5 1, 3), none, none, some (.goto (-168), 3), none, none, some (.aload_n 0, 1), some (.getfield 803, 3), none, none, some (.iconst 0, 1), some (.iaload, 1), some (.ireturn, 1)]])
def mc_X12_worth : am_M := (99, false, [
  [some (.aload_n 0, 1), some (.iload_n 1, 1), some (.invokevirtual 28204, 3), none, none, some (.ifCond .eq 23, 3), none, none, some (.aload_n 0, 1), some (.iload_n 2, 1), some (.invokevirtual 29228, 3), none, none, some (.ifCond .eq 15, 3), none, none],
  [some (.aload_n 0, 1), some (.iload_n 3, 1), some (.bipush (-99), 2), none, some (.bipush 99, 2), none, some (.invokevirtual 26956, 3), none, none, some (.ifCond .ne 7, 3), none, none, some (.sipush (-1000), 3), none, none, some (.ireturn, 1)],
  [some (.aload_n 0, 1), some (.getfield 816, 3), none, none, some (.bipush 8, 2), none, some (.iload_n 1, 1), some (.imul, 1), some (.iload_n 2, 1), some (.iadd, 1), some (.iaload, 1), some (.istore 4, 2), none, some (.aload_n 0, 1), some (.getfield 816, 3), none],
  [none, some (.bipush 8, 2), none, some (.iload_n 1, 1), some (.imul, 1), some (.iload_n 2, 1), some (.iadd, 1), some (.iload_n 3, 1), some (.iastore, 1), some (.iload 4, 2), none, some (.ireturn, 1)]])
def mc_X1_addText : am_M := (99, false, [
  [some (.aload_n 0, 1), some (.getfield 67, 3), none, none, some (.aload_n 0, 1), some (.getfield 69, 3), none, none, some (.aload_n 1, 1), some (.aastore, 1), some (.aload_n 0, 1), some (.getfield 68, 3), none, none, some (.aload_n 0, 1), some (.getfield 69, 3)],
  [none, none, some (.aload_n 2, 1), some (.aastore, 1), some (.aload_n 0, 1), some (.dup, 1), some (.getfield 69, 3), none, none, some (.dup_x1, 1), some (.iconst 1, 1), some (.iadd, 1), some (.putfield 69, 3), none, none, some (.ireturn, 1)]])
def mc_X1_changedBy : am_M := (99, false, [
  [some (.iconst 0, 1), some (.istore 4, 2), none, some (.iconst 0, 1), some (.istore 5, 2), none, some (.iload 5, 2), none, some (.aload_n 0, 1), some (.getfield 66, 3), none, none, some (.getfield 135, 3), none, none, some (.if_icmp .ge 97, 3)],
  [none, none, some (.aload_n 0, 1), some (.iload 5, 2), none, some (.invokevirtual 47137, 3), none, none, some (.iload_n 1, 1), some (.if_icmp .eq 6, 3), none, none, some (.goto 78, 3), none, none, some (.aload_n 0, 1)],
  [some (.getfield 64, 3), none, none, some (.iload_n 1, 1), some (.aload_n 0, 1), some (.getfield 66, 3), none, none, some (.getfield 131, 3), none, none, some (.iload 5, 2), none, some (.iaload, 1), some (.invokevirtual 55350, 3), none],
  [none, some (.istore 6, 2), none, some (.aload_n 0, 1), some (.getfield 64, 3), none, none, some (.iload_n 1, 1), some (.aload_n 0, 1), some (.getfield 66, 3), none, none, some (.getfield 131, 3), none, none, some (.iload 5, 2)],
  [none, some (.iaload, 1), some (.iload_n 2, 1), some (.iload_n 3, 1), some (.invokevirtual 55126, 3), none, none, some (.istore 7, 2), none, some (.iload 4, 2), none, some (.iload 6, 2), none, some (.iload 7, 2), none, some (.if_icmp .eq 23, 3)],
  [none, none, some (.aload_n 0, 1), some (.iload 5, 2), none, some (.iload 6, 2), none, some (.iload 7, 2), none, some (.invokevirtual 47937, 3), none, none, some (.ifCond .eq 10, 3), none, none, some (.iconst 1, 1)],
  [some (.iload 5, 2), none, some (.ishl, 1), some (.goto 4, 3), none, none, some (.iconst 0, 1), some (.ior, 1), some (.istore 4, 2), none, some (.iinc 5 1, 3), none, none, some (.goto (-103), 3), none, none],
  [some (.iload 4, 2), none, some (.ireturn, 1)]])
def mc_X1_firmAmong : am_M := (99, false, [
  [some (.iconst 0, 1), some (.istore_n 3, 1), some (.iconst 0, 1), some (.istore 4, 2), none, some (.iload 4, 2), none, some (.bipush 24, 2), none, some (.if_icmp .ge 32, 3), none, none, some (.iload_n 1, 1), some (.iload_n 2, 1), some (.aload_n 0, 1), some (.iload_n 3, 1)],
  [some (.invokevirtual 46113, 3), none, none, some (.ior, 1), some (.iand, 1), some (.istore 5, 2), none, some (.iload 5, 2), none, some (.iload_n 3, 1), some (.if_icmp .ne 6, 3), none, none, some (.goto 12, 3), none, none],
  [some (.iload 5, 2), none, some (.istore_n 3, 1), some (.iinc 4 1, 3), none, none, some (.goto (-33), 3), none, none, some (.iload_n 3, 1), some (.ireturn, 1)]])
def mc_X1_forceOn : am_M := (99, false, [
  [some (.iconst 0, 1), some (.istore_n 3, 1), some (.iconst 0, 1), some (.istore 4, 2), none, some (.iload 4, 2), none, some (.aload_n 0, 1), some (.getfield 66, 3), none, none, some (.getfield 135, 3), none, none, some (.if_icmp .ge 68, 3), none],
  [none, some (.iload_n 1, 1), some (.iload 4, 2), none, some (.invokestatic 9775, 3), none, none, some (.ifCond .eq 21, 3), none, none, some (.aload_n 0, 1), some (.getfield 66, 3), none, none, some (.getfield 128, 3), none],
  [none, some (.iload 4, 2), none, some (.iaload, 1), some (.iconst 1, 1), some (.if_icmp .eq 7, 3), none, none, some (.iconst 1, 1), some (.goto 4, 3), none, none, some (.iconst 0, 1), some (.istore 5, 2), none, some (.iload_n 3, 1)],
  [some (.iload 5, 2), none, some (.ifCond .eq 23, 3), none, none, some (.aload_n 0, 1), some (.getfield 66, 3), none, none, some (.iload 4, 2), none, some (.iload_n 2, 1), some (.invokevirtual 49970, 3), none, none, some (.ifCond .eq 10, 3)],
  [none, none, some (.iconst 1, 1), some (.iload 4, 2), none, some (.ishl, 1), some (.goto 4, 3), none, none, some (.iconst 0, 1), some (.ior, 1), some (.istore_n 3, 1), some (.iinc 4 1, 3), none, none, some (.goto (-74), 3)],
  [none, none, some (.iconst 0, 1), some (.istore 4, 2), none, some (.iload 4, 2), none, some (.bipush 6, 2), none, some (.if_icmp .ge 36, 3), none, none, some (.aload_n 0, 1), some (.iload_n 1, 1), some (.iload 4, 2), none],
  [some (.iload_n 2, 1), some (.invokevirtual 47425, 3), none, none, some (.istore 5, 2), none, some (.iload_n 3, 1), some (.iload 5, 2), none, some (.iconst (-1), 1), some (.if_icmp .eq 10, 3), none, none, some (.iconst 1, 1), some (.iload 5, 2), none],
  [some (.ishl, 1), some (.goto 4, 3), none, none, some (.iconst 0, 1), some (.ior, 1), some (.istore_n 3, 1), some (.iinc 4 1, 3), none, none, some (.goto (-37), 3), none, none, some (.iload_n 3, 1), some (.ireturn, 1)]])
def mc_X1_goodAmong : am_M := (99, false, [
  [some (.iload_n 1, 1), some (.istore_n 3, 1), some (.iconst 0, 1), some (.istore 4, 2), none, some (.iload 4, 2), none, some (.bipush 24, 2), none, some (.if_icmp .ge 32, 3), none, none, some (.iload_n 3, 1), some (.iload_n 2, 1), some (.aload_n 0, 1), some (.iload_n 3, 1)],
  [some (.invokevirtual 46113, 3), none, none, some (.ior, 1), some (.iand, 1), some (.istore 5, 2), none, some (.iload 5, 2), none, some (.iload_n 3, 1), some (.if_icmp .ne 6, 3), none, none, some (.goto 12, 3), none, none],
  [some (.iload 5, 2), none, some (.istore_n 3, 1), some (.iinc 4 1, 3), none, none, some (.goto (-33), 3), none, none, some (.iload_n 3, 1), some (.ireturn, 1)]])
def mc_X1_goodUnder : am_M := (99, false, [
  [some (.aload_n 0, 1), some (.aload_n 0, 1), some (.iload_n 1, 1), some (.iconst 0, 1), some (.invokevirtual 48177, 3), none, none, some (.aload_n 0, 1), some (.iload_n 1, 1), some (.iconst 1, 1), some (.invokevirtual 48177, 3), none, none, some (.invokevirtual 45617, 3), none, none],
  [some (.ireturn, 1)]])
def mc_X1_hangingWithin : am_M := (99, false, [
  [some (.iconst 0, 1), some (.istore_n 2, 1), some (.iconst 0, 1), some (.istore_n 3, 1), some (.iload_n 3, 1), some (.aload_n 0, 1), some (.getfield 66, 3), none, none, some (.getfield 135, 3), none, none, some (.if_icmp .ge 35, 3), none, none, some (.iload_n 2, 1)],
  [some (.aload_n 0, 1), some (.getfield 66, 3), none, none, some (.getfield 133, 3), none, none, some (.iload_n 3, 1), some (.iaload, 1), some (.iload_n 1, 1), some (.iconst (-1), 1), some (.ixor, 1), some (.iand, 1), some (.ifCond .ne 9, 3), none, none],
  [some (.iconst 1, 1), some (.iload_n 3, 1), some (.ishl, 1), some (.goto 4, 3), none, none, some (.iconst 0, 1), some (.ior, 1), some (.istore_n 2, 1), some (.iinc 3 1, 3), none, none, some (.goto (-40), 3), none, none, some (.iload_n 2, 1)],
  [some (.ireturn, 1)]])
def mc_X1_init : am_M := (1, false, [
  [some (.aload_n 0, 1), some (.invokespecial 31, 3), none, none, some (.aload_n 0, 1), some (.bipush 6, 2), none, some (.anewarray 4, 3), none, none, some (.putfield 67, 3), none, none, some (.aload_n 0, 1), some (.bipush 6, 2), none],
  [some (.anewarray 4, 3), none, none, some (.putfield 68, 3), none, none, some (.aload_n 0, 1), some (.iconst 3, 1), some (.newarray .int, 2), none, some (.putfield 70, 3), none, none, some (.aload_n 0, 1), some (.bipush 6, 2), none],
  [some (.newarray .int, 2), none, some (.putfield 71, 3), none, none, some (.aload_n 0, 1), some (.bipush 40, 2), none, some (.newarray .int, 2), none, some (.putfield 72, 3), none, none, some (.aload_n 0, 1), some (.aload_n 1, 1), some (.putfield 64, 3)],
  [none, none, some (.aload_n 0, 1), some (.aload_n 2, 1), some (.putfield 65, 3), none, none, some (.aload_n 0, 1), some (.aload_n 3, 1), some (.putfield 66, 3), none, none, some (.aload_n 0, 1), some (.new 5, 3), none, none],
  [some (.dup, 1), some (.iconst 1, 1), some (.newarray .int, 2), none, some (.dup, 1), some (.iconst 0, 1), some (.bipush (-4), 2), none, some (.iastore, 1), some (.invokespecial 52783, 3), none, none, some (.new 5, 3), none, none, some (.dup, 1)],
  [some (.iconst 1, 1), some (.newarray .int, 2), none, some (.dup, 1), some (.iconst 0, 1), some (.bipush (-6), 2), none, some (.iastore, 1), some (.invokespecial 52783, 3), none, none, some (.invokevirtual 44593, 3), none, none, some (.pop, 1), some (.return_, 1)]])
def mc_X1_knewOf : am_M := (99, true, [
  [some (.aload_n 0, 1), some (.iload_n 2, 1), some (.aload_n 0, 1), some (.iload_n 1, 1), some (.invokevirtual 47137, 3), none, none, some (.invokevirtual 46897, 3), none, none, some (.istore_n 3, 1), some (.iload_n 3, 1), some (.iconst (-1), 1), some (.if_icmp .eq 20, 3), none, none],
  [some (.iload_n 3, 1), some (.aload_n 0, 1), some (.getfield 66, 3), none, none, some (.getfield 131, 3), none, none, some (.iload_n 1, 1), some (.iaload, 1), some (.if_icmp .gt 7, 3), none, none, some (.iconst 1, 1), some (.goto 4, 3), none],
  [none, some (.iconst 0, 1), some (.ireturn, 1)]])
def mc_X1_knownFrom : am_M := (99, false, [
  [some (.aload_n 0, 1), some (.getfield 64, 3), none, none, some (.getfield 385, 3), none, none, some (.aload_n 0, 1), some (.iload_n 1, 1), some (.invokevirtual 47137, 3), none, none, some (.aaload, 1), some (.iload_n 2, 1), some (.iaload, 1), some (.istore_n 3, 1)],
  [some (.iload_n 3, 1), some (.sipush 999, 3), none, none, some (.if_icmp .ne 7, 3), none, none, some (.iconst (-1), 1), some (.goto 14, 3), none, none, some (.aload_n 0, 1), some (.getfield 66, 3), none, none, some (.getfield 131, 3)],
  [none, none, some (.iload_n 1, 1), some (.iaload, 1), some (.iload_n 3, 1), some (.iadd, 1), some (.ireturn, 1)]])
def mc_X1_landOf : am_M := (99, false, [
  [some (.aload_n 0, 1), some (.getfield 65, 3), none, none, some (.getfield 448, 3), none, none, some (.aload_n 0, 1), some (.getfield 66, 3), none, none, some (.getfield 129, 3), none, none, some (.iload_n 1, 1), some (.iaload, 1)],
  [some (.iaload, 1), some (.ireturn, 1)]])
def mc_X1_namingOn : am_M := (99, false, [
  [some (.iconst (-1), 1), some (.istore 4, 2), none, some (.iconst 0, 1), some (.istore 5, 2), none, some (.iload 5, 2), none, some (.aload_n 0, 1), some (.getfield 66, 3), none, none, some (.getfield 135, 3), none, none, some (.if_icmp .ge 120, 3)],
  [none, none, some (.aload_n 0, 1), some (.getfield 66, 3), none, none, some (.getfield 128, 3), none, none, some (.iload 5, 2), none, some (.iaload, 1), some (.iconst 1, 1), some (.if_icmp .ne 24, 3), none, none],
  [some (.aload_n 0, 1), some (.getfield 66, 3), none, none, some (.getfield 130, 3), none, none, some (.iload 5, 2), none, some (.iaload, 1), some (.bipush 12, 2), none, some (.idiv, 1), some (.iload_n 2, 1), some (.if_icmp .ne 7, 3), none],
  [none, some (.iconst 1, 1), some (.goto 4, 3), none, none, some (.iconst 0, 1), some (.istore 6, 2), none, some (.iload 6, 2), none, some (.ifCond .eq 30, 3), none, none, some (.iload_n 1, 1), some (.iload 5, 2), none],
  [some (.invokestatic 9775, 3), none, none, some (.ifCond .eq 21, 3), none, none, some (.aload_n 0, 1), some (.getfield 66, 3), none, none, some (.getfield 131, 3), none, none, some (.iload 5, 2), none, some (.iaload, 1)],
  [some (.iload_n 3, 1), some (.if_icmp .gt 7, 3), none, none, some (.iconst 1, 1), some (.goto 4, 3), none, none, some (.iconst 0, 1), some (.istore 7, 2), none, some (.iload 7, 2), none, some (.ifCond .eq 36, 3), none, none],
  [some (.iload 4, 2), none, some (.iconst (-1), 1), some (.if_icmp .eq 26, 3), none, none, some (.aload_n 0, 1), some (.getfield 66, 3), none, none, some (.getfield 131, 3), none, none, some (.iload 5, 2), none, some (.iaload, 1)],
  [some (.aload_n 0, 1), some (.getfield 66, 3), none, none, some (.getfield 131, 3), none, none, some (.iload 4, 2), none, some (.iaload, 1), some (.if_icmp .lt 7, 3), none, none, some (.iload 5, 2), none, some (.istore 4, 2)],
  [none, some (.iinc 5 1, 3), none, none, some (.goto (-126), 3), none, none, some (.iload 4, 2), none, some (.iconst (-1), 1), some (.if_icmp .eq 21, 3), none, none, some (.aload_n 0, 1), some (.getfield 66, 3), none],
  [none, some (.iload 4, 2), none, some (.iload_n 3, 1), some (.invokevirtual 49970, 3), none, none, some (.ifCond .eq 8, 3), none, none, some (.iload 4, 2), none, some (.goto 4, 3), none, none, some (.iconst (-1), 1)],
  [some (.ireturn, 1)]])
def mc_X1_rightful : am_M := (99, false, [
  [some (.aload_n 0, 1), some (.iload_n 1, 1), some (.iload_n 2, 1), some (.iload_n 3, 1), some (.invokevirtual 47425, 3), none, none, some (.istore 4, 2), none, some (.iload 4, 2), none, some (.iconst (-1), 1), some (.if_icmp .ne 7, 3), none, none, some (.iconst (-1), 1)],
  [some (.goto 16, 3), none, none, some (.aload_n 0, 1), some (.getfield 66, 3), none, none, some (.getfield 130, 3), none, none, some (.iload 4, 2), none, some (.iaload, 1), some (.bipush 12, 2), none, some (.irem, 1)],
  [some (.ireturn, 1)]])
def mc_X1_tellsApart : am_M := (99, true, [
  [some (.iconst 0, 1), some (.istore 4, 2), none, some (.iload 4, 2), none, some (.iconst 2, 1), some (.if_icmp .ge 56, 3), none, none, some (.aload_n 0, 1), some (.iload 4, 2), none, some (.iload_n 1, 1), some (.iconst 0, 1), some (.iload_n 2, 1), some (.invokevirtual 48465, 3)],
  [none, none, some (.ifCond .eq 7, 3), none, none, some (.iconst 1, 1), some (.goto 4, 3), none, none, some (.iconst 0, 1), some (.istore 5, 2), none, some (.aload_n 0, 1), some (.iload 4, 2), none, some (.iload_n 1, 1)],
  [some (.iconst 0, 1), some (.iload_n 3, 1), some (.invokevirtual 48465, 3), none, none, some (.ifCond .eq 7, 3), none, none, some (.iconst 1, 1), some (.goto 4, 3), none, none, some (.iconst 0, 1), some (.istore 6, 2), none, some (.iload 5, 2)],
  [none, some (.iload 6, 2), none, some (.if_icmp .eq 5, 3), none, none, some (.iconst 1, 1), some (.ireturn, 1), some (.iinc 4 1, 3), none, none, some (.goto (-56), 3), none, none, some (.iconst 0, 1), some (.ireturn, 1)]])
def mc_X1_trueUnder : am_M := (99, false, [
  [some (.iconst 0, 1), some (.istore_n 3, 1), some (.iconst 0, 1), some (.istore 4, 2), none, some (.iload 4, 2), none, some (.aload_n 0, 1), some (.getfield 66, 3), none, none, some (.getfield 135, 3), none, none, some (.if_icmp .ge 31, 3), none],
  [none, some (.iload_n 3, 1), some (.aload_n 0, 1), some (.iload_n 1, 1), some (.iload 4, 2), none, some (.iload_n 2, 1), some (.invokevirtual 48705, 3), none, none, some (.ifCond .eq 10, 3), none, none, some (.iconst 1, 1), some (.iload 4, 2), none],
  [some (.ishl, 1), some (.goto 4, 3), none, none, some (.iconst 0, 1), some (.ior, 1), some (.istore_n 3, 1), some (.iinc 4 1, 3), none, none, some (.goto (-37), 3), none, none, some (.iload_n 3, 1), some (.ireturn, 1)]])
def mc_X1_valueIfHeld : am_M := (99, false, [
  [some (.aload_n 0, 1), some (.getfield 71, 3), none, none, some (.iconst 0, 1), some (.aload_n 0, 1), some (.getfield 66, 3), none, none, some (.getfield 128, 3), none, none, some (.iload_n 2, 1), some (.iaload, 1), some (.iastore, 1), some (.aload_n 0, 1)],
  [some (.getfield 71, 3), none, none, some (.iconst 1, 1), some (.aload_n 0, 1), some (.getfield 66, 3), none, none, some (.getfield 131, 3), none, none, some (.iload_n 2, 1), some (.iaload, 1), some (.iastore, 1), some (.aload_n 0, 1), some (.getfield 71, 3)],
  [none, none, some (.iconst 2, 1), some (.aload_n 0, 1), some (.getfield 66, 3), none, none, some (.iload_n 2, 1), some (.invokevirtual 49698, 3), none, none, some (.iastore, 1), some (.aload_n 0, 1), some (.getfield 71, 3), none, none],
  [some (.iconst 3, 1), some (.iload_n 1, 1), some (.iconst 2, 1), some (.if_icmp .eq 9, 3), none, none, some (.iload_n 1, 1), some (.iload 4, 2), none, some (.if_icmp .ne 7, 3), none, none, some (.iconst 1, 1), some (.goto 4, 3), none, none],
  [some (.iconst 0, 1), some (.iastore, 1), some (.aload_n 0, 1), some (.getfield 71, 3), none, none, some (.iconst 4, 1), some (.aload_n 0, 1), some (.getfield 66, 3), none, none, some (.getfield 133, 3), none, none, some (.iload_n 2, 1), some (.iaload, 1)],
  [some (.invokestatic 287, 3), none, none, some (.iastore, 1), some (.aload_n 0, 1), some (.getfield 71, 3), none, none, some (.iconst 5, 1), some (.aload_n 0, 1), some (.getfield 66, 3), none, none, some (.getfield 132, 3), none, none],
  [some (.iload_n 2, 1), some (.iaload, 1), some (.iastore, 1), some (.iload_n 3, 1), some (.ifCond .ne 17, 3), none, none, some (.aload_n 0, 1), some (.getfield 67, 3), none, none, some (.aload_n 0, 1), some (.getfield 70, 3), none, none, some (.iload_n 1, 1)],
  [some (.iaload, 1), some (.aaload, 1), some (.goto 14, 3), none, none, some (.aload_n 0, 1), some (.getfield 68, 3), none, none, some (.aload_n 0, 1), some (.getfield 70, 3), none, none, some (.iload_n 1, 1), some (.iaload, 1), some (.aaload, 1)],
  [some (.astore 5, 2), none, some (.aload 5, 2), none, some (.ifnonnull 7, 3), none, none, some (.iconst 0, 1), some (.goto 16, 3), none, none, some (.aload 5, 2), none, some (.aload_n 0, 1), some (.getfield 71, 3), none],
  [none, some (.aload_n 0, 1), some (.getfield 72, 3), none, none, some (.invokevirtual 53301, 3), none, none, some (.ireturn, 1)]])
def mc_X1_valueOf : am_M := (99, false, [
  [some (.aload_n 0, 1), some (.getfield 64, 3), none, none, some (.aload_n 0, 1), some (.iload_n 2, 1), some (.invokevirtual 47137, 3), none, none, some (.aload_n 0, 1), some (.getfield 66, 3), none, none, some (.getfield 131, 3), none, none],
  [some (.iload_n 2, 1), some (.iaload, 1), some (.invokevirtual 55350, 3), none, none, some (.istore 4, 2), none, some (.aload_n 0, 1), some (.iload_n 1, 1), some (.iload_n 2, 1), some (.iload_n 3, 1), some (.iload 4, 2), none, some (.invokevirtual 48465, 3), none, none],
  [some (.ireturn, 1)]])
def mc_X2_add : am_M := (99, false, [
  [some (.aload_n 0, 1), some (.getfield 128, 3), none, none, some (.aload_n 0, 1), some (.getfield 135, 3), none, none, some (.iload_n 1, 1), some (.iastore, 1), some (.aload_n 0, 1), some (.getfield 129, 3), none, none, some (.aload_n 0, 1), some (.getfield 135, 3)],
  [none, none, some (.iload_n 2, 1), some (.iastore, 1), some (.aload_n 0, 1), some (.getfield 130, 3), none, none, some (.aload_n 0, 1), some (.getfield 135, 3), none, none, some (.iload_n 3, 1), some (.iastore, 1), some (.aload_n 0, 1), some (.getfield 131, 3)],
  [none, none, some (.aload_n 0, 1), some (.getfield 135, 3), none, none, some (.iload 4, 2), none, some (.iastore, 1), some (.aload_n 0, 1), some (.getfield 132, 3), none, none, some (.aload_n 0, 1), some (.getfield 135, 3), none],
  [none, some (.iload 5, 2), none, some (.iastore, 1), some (.aload_n 0, 1), some (.dup, 1), some (.getfield 135, 3), none, none, some (.dup_x1, 1), some (.iconst 1, 1), some (.iadd, 1), some (.putfield 135, 3), none, none, some (.ireturn, 1)]])
def mc_X2_init : am_M := (2, false, [
  [some (.aload_n 0, 1), some (.invokespecial 31, 3), none, none, some (.aload_n 0, 1), some (.bipush 24, 2), none, some (.newarray .int, 2), none, some (.putfield 128, 3), none, none, some (.aload_n 0, 1), some (.bipush 24, 2), none, some (.newarray .int, 2)],
  [none, some (.putfield 129, 3), none, none, some (.aload_n 0, 1), some (.bipush 24, 2), none, some (.newarray .int, 2), none, some (.putfield 130, 3), none, none, some (.aload_n 0, 1), some (.bipush 24, 2), none, some (.newarray .int, 2)],
  [none, some (.putfield 131, 3), none, none, some (.aload_n 0, 1), some (.bipush 24, 2), none, some (.newarray .int, 2), none, some (.putfield 132, 3), none, none, some (.aload_n 0, 1), some (.bipush 24, 2), none, some (.newarray .int, 2)],
  [none, some (.putfield 133, 3), none, none, some (.aload_n 0, 1), some (.bipush 24, 2), none, some (.newarray .int, 2), none, some (.putfield 134, 3), none, none, some (.aload_n 0, 1), some (.getfield 134, 3), none, none],
  [some (.iconst (-1), 1), some (.invokestatic 815, 3), none, none, some (.return_, 1)]])
def mc_X2_lastsFor : am_M := (99, false, [
  [some (.aload_n 0, 1), some (.getfield 134, 3), none, none, some (.iload_n 1, 1), some (.iaload, 1), some (.iconst (-1), 1), some (.if_icmp .ne 16, 3), none, none, some (.getstatic 2, 3), none, none, some (.aload_n 0, 1), some (.getfield 128, 3), none],
  [none, some (.iload_n 1, 1), some (.iaload, 1), some (.iaload, 1), some (.goto 16, 3), none, none, some (.aload_n 0, 1), some (.getfield 134, 3), none, none, some (.iload_n 1, 1), some (.iaload, 1), some (.aload_n 0, 1), some (.getfield 131, 3), none],
  [none, some (.iload_n 1, 1), some (.iaload, 1), some (.isub, 1), some (.ireturn, 1)]])
def mc_X2_rankOf : am_M := (99, false, [
  [some (.getstatic 1, 3), none, none, some (.aload_n 0, 1), some (.getfield 128, 3), none, none, some (.iload_n 1, 1), some (.iaload, 1), some (.iaload, 1), some (.ireturn, 1)]])
def mc_X2_runsOn : am_M := (99, true, [
  [some (.aload_n 0, 1), some (.getfield 131, 3), none, none, some (.iload_n 1, 1), some (.iaload, 1), some (.iload_n 2, 1), some (.if_icmp .gt 23, 3), none, none, some (.iload_n 2, 1), some (.aload_n 0, 1), some (.getfield 131, 3), none, none, some (.iload_n 1, 1)],
  [some (.iaload, 1), some (.aload_n 0, 1), some (.iload_n 1, 1), some (.invokevirtual 49442, 3), none, none, some (.iadd, 1), some (.if_icmp .ge 7, 3), none, none, some (.iconst 1, 1), some (.goto 4, 3), none, none, some (.iconst 0, 1), some (.ireturn, 1)]])
def mc_X2_tell : am_M := (99, false, [
  [some (.iload_n 2, 1), some (.tableswitch 101 0 7 #[47, 54, 61, 68, 75, 82, 88, 94], 47), none, none, none, none, none, none, none, none, none, none, none, none, none, none],
  [none, none, none, none, none, none, none, none, none, none, none, none, none, none, none, none],
  [none, none, none, none, none, none, none, none, none, none, none, none, none, none, none, none],
  [some (.aload_n 0, 1), some (.getfield 128, 3), none, none, some (.iload_n 1, 1), some (.iaload, 1), some (.ireturn, 1), some (.aload_n 0, 1), some (.getfield 129, 3), none, none, some (.iload_n 1, 1), some (.iaload, 1), some (.ireturn, 1), some (.aload_n 0, 1), some (.getfield 130, 3)],
  [none, none, some (.iload_n 1, 1), some (.iaload, 1), some (.ireturn, 1), some (.aload_n 0, 1), some (.getfield 131, 3), none, none, some (.iload_n 1, 1), some (.iaload, 1), some (.ireturn, 1), some (.aload_n 0, 1), some (.getfield 132, 3), none, none],
  [some (.iload_n 1, 1), some (.iaload, 1), some (.ireturn, 1), some (.aload_n 0, 1), some (.iload_n 1, 1), some (.invokevirtual 49698, 3), none, none, some (.ireturn, 1), some (.aload_n 0, 1), some (.iload_n 1, 1), some (.invokevirtual 49442, 3), none, none, some (.ireturn, 1), some (.aload_n 0, 1)],
  [some (.getfield 133, 3), none, none, some (.iload_n 1, 1), some (.iaload, 1), some (.ireturn, 1), some (.bipush (-2), 2), none, some (.ireturn, 1)]])
def mc_X3_add : am_M := (99, false, [
  [some (.aload_n 0, 1), some (.getfield 192, 3), none, none, some (.aload_n 0, 1), some (.getfield 195, 3), none, none, some (.iload_n 1, 1), some (.iastore, 1), some (.aload_n 0, 1), some (.dup, 1), some (.getfield 194, 3), none, none, some (.iload_n 2, 1)],
  [some (.aload_n 0, 1), some (.getfield 195, 3), none, none, some (.ishl, 1), some (.ior, 1), some (.putfield 194, 3), none, none, some (.aload_n 0, 1), some (.dup, 1), some (.getfield 195, 3), none, none, some (.dup_x1, 1), some (.iconst 1, 1)],
  [some (.iadd, 1), some (.putfield 195, 3), none, none, some (.ireturn, 1)]])
def mc_X3_cheapest : am_M := (99, false, [
  [some (.iconst (-1), 1), some (.istore_n 1, 1), some (.iconst 0, 1), some (.istore_n 2, 1), some (.iconst 0, 1), some (.istore_n 3, 1), some (.aload_n 0, 1), some (.getfield 194, 3), none, none, some (.invokestatic 287, 3), none, none, some (.istore 4, 2), none, some (.iconst 0, 1)],
  [some (.istore 5, 2), none, some (.iload 5, 2), none, some (.iconst 1, 1), some (.aload_n 0, 1), some (.getfield 195, 3), none, none, some (.ishl, 1), some (.if_icmp .ge 113, 3), none, none, some (.iload 5, 2), none, some (.aload_n 0, 1)],
  [some (.getfield 194, 3), none, none, some (.iand, 1), some (.ifCond .eq 6, 3), none, none, some (.goto 94, 3), none, none, some (.iload 5, 2), none, some (.invokestatic 287, 3), none, none, some (.istore 6, 2)],
  [none, some (.iconst 2, 1), some (.iload 6, 2), none, some (.iload 4, 2), none, some (.iadd, 1), some (.imul, 1), some (.aload_n 0, 1), some (.getfield 195, 3), none, none, some (.if_icmp .gt 6, 3), none, none, some (.goto 70, 3)],
  [none, none, some (.aload_n 0, 1), some (.getfield 192, 3), none, none, some (.iload 5, 2), none, some (.invokestatic 17967, 3), none, none, some (.istore 7, 2), none, some (.iload 7, 2), none, some (.iload_n 2, 1)],
  [some (.if_icmp .lt 15, 3), none, none, some (.iload 7, 2), none, some (.iload_n 2, 1), some (.if_icmp .ne 13, 3), none, none, some (.iload 6, 2), none, some (.iload_n 3, 1), some (.if_icmp .ge 7, 3), none, none, some (.iconst 1, 1)],
  [some (.goto 4, 3), none, none, some (.iconst 0, 1), some (.istore 8, 2), none, some (.iload_n 1, 1), some (.iconst (-1), 1), some (.if_icmp .eq 8, 3), none, none, some (.iload 8, 2), none, some (.ifCond .eq 24, 3), none, none],
  [some (.aload_n 0, 1), some (.getfield 193, 3), none, none, some (.iload 5, 2), none, some (.invokestatic 9263, 3), none, none, some (.ifCond .eq 12, 3), none, none, some (.iload 5, 2), none, some (.istore_n 1, 1), some (.iload 7, 2)],
  [none, some (.istore_n 2, 1), some (.iload 6, 2), none, some (.istore_n 3, 1), some (.iinc 5 1, 3), none, none, some (.goto (-118), 3), none, none, some (.iload_n 1, 1), some (.ireturn, 1)]])
def mc_X3_init : am_M := (3, false, [
  [some (.aload_n 0, 1), some (.invokespecial 31, 3), none, none, some (.aload_n 0, 1), some (.bipush 10, 2), none, some (.newarray .int, 2), none, some (.putfield 192, 3), none, none, some (.aload_n 0, 1), some (.bipush 10, 2), none, some (.newarray .int, 2)],
  [none, some (.putfield 193, 3), none, none, some (.return_, 1)]])
def mc_X4_giveUp : am_M := (99, false, [
  [some (.iload_n 3, 1), some (.aload_n 0, 1), some (.getfield 260, 3), none, none, some (.if_icmp .gt 4, 3), none, none, some (.return_, 1), some (.iload_n 1, 1), some (.istore 4, 2), none, some (.iconst 0, 1), some (.istore 5, 2), none, some (.iload 5, 2)],
  [none, some (.bipush 8, 2), none, some (.if_icmp .ge 37, 3), none, none, some (.iload_n 2, 1), some (.iload 5, 2), none, some (.invokestatic 9775, 3), none, none, some (.ifCond .eq 22, 3), none, none, some (.iload 4, 2)],
  [none, some (.bipush 7, 2), none, some (.if_icmp .ge 15, 3), none, none, some (.aload_n 0, 1), some (.getfield 257, 3), none, none, some (.iload 4, 2), none, some (.iinc 4 1, 3), none, none, some (.iload 5, 2)],
  [none, some (.iastore, 1), some (.iinc 5 1, 3), none, none, some (.goto (-38), 3), none, none, some (.aload_n 0, 1), some (.iload_n 3, 1), some (.invokevirtual 52004, 3), none, none, some (.return_, 1)]])
def mc_X4_goOn : am_M := (99, false, [
  [some (.iload 5, 2), none, some (.aload_n 0, 1), some (.iload_n 2, 1), some (.iload_n 3, 1), some (.iload 4, 2), none, some (.invokevirtual 52292, 3), none, none, some (.iadd, 1), some (.aload_n 0, 1), some (.getfield 260, 3), none, none, some (.if_icmp .gt 4, 3)],
  [none, none, some (.return_, 1), some (.iload_n 1, 1), some (.aload_n 0, 1), some (.getfield 259, 3), none, none, some (.if_icmp .ge 9, 3), none, none, some (.iload_n 1, 1), some (.bipush 7, 2), none, some (.if_icmp .lt 10, 3), none],
  [none, some (.aload_n 0, 1), some (.iload 5, 2), none, some (.invokevirtual 52004, 3), none, none, some (.return_, 1), some (.iconst 0, 1), some (.istore 6, 2), none, some (.iload 6, 2), none, some (.bipush 8, 2), none, some (.if_icmp .ge 127, 3)],
  [none, none, some (.iload_n 3, 1), some (.iload 6, 2), none, some (.invokestatic 9775, 3), none, none, some (.ifCond .ne 6, 3), none, none, some (.goto 109, 3), none, none, some (.aload_n 0, 1), some (.getfield 257, 3)],
  [none, none, some (.iload_n 1, 1), some (.iload 6, 2), none, some (.iastore, 1), some (.iload_n 3, 1), some (.iconst 1, 1), some (.iload 6, 2), none, some (.ishl, 1), some (.iconst (-1), 1), some (.ixor, 1), some (.iand, 1), some (.istore 7, 2), none],
  [some (.iload 4, 2), none, some (.aload_n 0, 1), some (.getfield 256, 3), none, none, some (.getfield 385, 3), none, none, some (.iload_n 2, 1), some (.aaload, 1), some (.iload 6, 2), none, some (.iaload, 1), some (.iadd, 1), some (.istore 8, 2)],
  [none, some (.aload_n 0, 1), some (.getfield 256, 3), none, none, some (.getfield 385, 3), none, none, some (.iload_n 2, 1), some (.aaload, 1), some (.iload 6, 2), none, some (.iaload, 1), some (.sipush 999, 3), none, none],
  [some (.if_icmp .ne 17, 3), none, none, some (.aload_n 0, 1), some (.iload_n 1, 1), some (.iconst 1, 1), some (.iadd, 1), some (.iload 7, 2), none, some (.iload 5, 2), none, some (.invokevirtual 51268, 3), none, none, some (.goto 42, 3), none],
  [none, some (.aload_n 0, 1), some (.iload_n 1, 1), some (.iconst 1, 1), some (.iadd, 1), some (.iload 6, 2), none, some (.iload 7, 2), none, some (.iload 8, 2), none, some (.iconst 3, 1), some (.iadd, 1), some (.iload 8, 2), none, some (.aload_n 0, 1)],
  [some (.getfield 256, 3), none, none, some (.getfield 391, 3), none, none, some (.iload 6, 2), none, some (.iaload, 1), some (.if_icmp .gt 10, 3), none, none, some (.iload 5, 2), none, some (.iconst 1, 1), some (.iadd, 1)],
  [some (.goto 5, 3), none, none, some (.iload 5, 2), none, some (.invokevirtual 51556, 3), none, none, some (.iinc 6 1, 3), none, none, some (.goto (-128), 3), none, none, some (.return_, 1)]])
def mc_X4_init : am_M := (4, false, [
  [some (.aload_n 0, 1), some (.invokespecial 31, 3), none, none, some (.aload_n 0, 1), some (.bipush 7, 2), none, some (.newarray .int, 2), none, some (.putfield 257, 3), none, none, some (.aload_n 0, 1), some (.bipush 7, 2), none, some (.newarray .int, 2)],
  [none, some (.putfield 258, 3), none, none, some (.aload_n 0, 1), some (.aload_n 1, 1), some (.putfield 256, 3), none, none, some (.return_, 1)]])
def mc_X4_keep : am_M := (99, false, [
  [some (.aload_n 0, 1), some (.iload_n 1, 1), some (.putfield 260, 3), none, none, some (.aload_n 0, 1), some (.getfield 257, 3), none, none, some (.iconst 0, 1), some (.aload_n 0, 1), some (.getfield 258, 3), none, none, some (.iconst 0, 1), some (.bipush 7, 2)],
  [none, some (.invokedynamic 0, 3), none, none, some (.return_, 1)]])
def mc_X4_mayBeWon : am_M := (99, false, [
  [some (.iconst 0, 1), some (.istore 4, 2), none, some (.iconst 0, 1), some (.istore 5, 2), none, some (.iload 5, 2), none, some (.bipush 8, 2), none, some (.if_icmp .ge 60, 3), none, none, some (.aload_n 0, 1), some (.getfield 256, 3), none],
  [none, some (.getfield 385, 3), none, none, some (.iload_n 1, 1), some (.aaload, 1), some (.iload 5, 2), none, some (.iaload, 1), some (.istore 6, 2), none, some (.iload_n 2, 1), some (.iload 5, 2), none, some (.invokestatic 9775, 3), none],
  [none, some (.ifCond .eq 31, 3), none, none, some (.iload 6, 2), none, some (.sipush 999, 3), none, none, some (.if_icmp .eq 23, 3), none, none, some (.iload_n 3, 1), some (.iload 6, 2), none, some (.iadd, 1)],
  [some (.aload_n 0, 1), some (.getfield 256, 3), none, none, some (.getfield 391, 3), none, none, some (.iload 5, 2), none, some (.iaload, 1), some (.if_icmp .gt 6, 3), none, none, some (.iinc 4 1, 3), none, none],
  [some (.iinc 5 1, 3), none, none, some (.goto (-61), 3), none, none, some (.iload 4, 2), none, some (.ireturn, 1)]])
def mc_X4_plan : am_M := (99, false, [
  [some (.aload_n 0, 1), some (.iload_n 2, 1), some (.invokestatic 287, 3), none, none, some (.putfield 259, 3), none, none, some (.aload_n 0, 1), some (.iconst (-1), 1), some (.putfield 260, 3), none, none, some (.aload_n 0, 1), some (.iconst 0, 1), some (.iload_n 1, 1)],
  [some (.iload_n 2, 1), some (.iconst 0, 1), some (.iconst 0, 1), some (.invokevirtual 51556, 3), none, none, some (.return_, 1)]])
def mc_X5_init : am_M := (5, false, [
  [some (.aload_n 0, 1), some (.invokespecial 31, 3), none, none, some (.aload_n 0, 1), some (.aload_n 1, 1), some (.putfield 320, 3), none, none, some (.return_, 1)]])
def mc_X5_joined : am_M := (99, false, [
  [some (.iload_n 0, 1), some (.tableswitch 105 (-15) (-9) #[101, 97, 93, 82, 71, 57, 43], 43), none, none, none, none, none, none, none, none, none, none, none, none, none, none],
  [none, none, none, none, none, none, none, none, none, none, none, none, none, none, none, none],
  [none, none, none, none, none, none, none, none, none, none, none, none, some (.iload_n 1, 1), some (.ifCond .ne 7, 3), none, none],
  [some (.iload_n 2, 1), some (.ifCond .eq 7, 3), none, none, some (.iconst 1, 1), some (.goto 4, 3), none, none, some (.iconst 0, 1), some (.ireturn, 1), some (.iload_n 1, 1), some (.ifCond .eq 11, 3), none, none, some (.iload_n 2, 1), some (.ifCond .eq 7, 3)],
  [none, none, some (.iconst 1, 1), some (.goto 4, 3), none, none, some (.iconst 0, 1), some (.ireturn, 1), some (.iload_n 1, 1), some (.iload_n 2, 1), some (.if_icmp .ge 7, 3), none, none, some (.iconst 1, 1), some (.goto 4, 3), none],
  [none, some (.iconst 0, 1), some (.ireturn, 1), some (.iload_n 1, 1), some (.iload_n 2, 1), some (.if_icmp .ne 7, 3), none, none, some (.iconst 1, 1), some (.goto 4, 3), none, none, some (.iconst 0, 1), some (.ireturn, 1), some (.iload_n 1, 1), some (.iload_n 2, 1)],
  [some (.iadd, 1), some (.ireturn, 1), some (.iload_n 1, 1), some (.iload_n 2, 1), some (.isub, 1), some (.ireturn, 1), some (.iload_n 1, 1), some (.iload_n 2, 1), some (.imul, 1), some (.ireturn, 1), some (.iconst 0, 1), some (.ireturn, 1)]])
def mc_X5_valueFor : am_M := (99, false, [
  [some (.iconst 0, 1), some (.istore_n 3, 1), some (.iconst 0, 1), some (.istore 4, 2), none, some (.iload 4, 2), none, some (.aload_n 0, 1), some (.getfield 320, 3), none, none, some (.arraylength, 1), some (.if_icmp .ge 138, 3), none, none, some (.aload_n 0, 1)],
  [some (.getfield 320, 3), none, none, some (.iload 4, 2), none, some (.iaload, 1), some (.istore 5, 2), none, some (.iload 5, 2), none, some (.bipush (-6), 2), none, some (.if_icmp .lt 36, 3), none, none, some (.iload_n 3, 1)],
  [some (.aload_n 2, 1), some (.arraylength, 1), some (.if_icmp .lt 5, 3), none, none, some (.iconst 0, 1), some (.ireturn, 1), some (.aload_n 2, 1), some (.iload_n 3, 1), some (.iinc 3 1, 3), none, none, some (.iload 5, 2), none, some (.ifCond .lt 8, 3), none],
  [none, some (.iload 5, 2), none, some (.goto 9, 3), none, none, some (.aload_n 1, 1), some (.iconst (-1), 1), some (.iload 5, 2), none, some (.isub, 1), some (.iaload, 1), some (.iastore, 1), some (.goto 83, 3), none, none],
  [some (.iload 5, 2), none, some (.bipush (-8), 2), none, some (.if_icmp .lt 48, 3), none, none, some (.iload_n 3, 1), some (.iconst 1, 1), some (.if_icmp .ge 5, 3), none, none, some (.iconst 0, 1), some (.ireturn, 1), some (.aload_n 2, 1), some (.iload_n 3, 1)],
  [some (.iconst 1, 1), some (.isub, 1), some (.iaload, 1), some (.istore 6, 2), none, some (.aload_n 2, 1), some (.iload_n 3, 1), some (.iconst 1, 1), some (.isub, 1), some (.iload 5, 2), none, some (.bipush (-8), 2), none, some (.if_icmp .ne 9, 3), none, none],
  [some (.iload 6, 2), none, some (.ineg, 1), some (.goto 13, 3), none, none, some (.iload 6, 2), none, some (.ifCond .ne 7, 3), none, none, some (.iconst 1, 1), some (.goto 4, 3), none, none, some (.iconst 0, 1)],
  [some (.iastore, 1), some (.goto 31, 3), none, none, some (.iload_n 3, 1), some (.iconst 2, 1), some (.if_icmp .ge 5, 3), none, none, some (.iconst 0, 1), some (.ireturn, 1), some (.iinc 3 (-1), 3), none, none, some (.aload_n 2, 1), some (.iload_n 3, 1)],
  [some (.iconst 1, 1), some (.isub, 1), some (.iload 5, 2), none, some (.aload_n 2, 1), some (.iload_n 3, 1), some (.iconst 1, 1), some (.isub, 1), some (.iaload, 1), some (.aload_n 2, 1), some (.iload_n 3, 1), some (.iaload, 1), some (.invokestatic 53055, 3), none, none, some (.iastore, 1)],
  [some (.iinc 4 1, 3), none, none, some (.goto (-142), 3), none, none, some (.iload_n 3, 1), some (.iconst 1, 1), some (.if_icmp .ne 9, 3), none, none, some (.aload_n 2, 1), some (.iconst 0, 1), some (.iaload, 1), some (.goto 4, 3), none],
  [none, some (.iconst 0, 1), some (.ireturn, 1)]])
def mc_X6_addTurn : am_M := (99, false, [
  [some (.aload_n 0, 1), some (.getfield 386, 3), none, none, some (.aload_n 0, 1), some (.getfield 389, 3), none, none, some (.iload_n 1, 1), some (.iastore, 1), some (.aload_n 0, 1), some (.getfield 387, 3), none, none, some (.aload_n 0, 1), some (.getfield 389, 3)],
  [none, none, some (.iload_n 2, 1), some (.iastore, 1), some (.aload_n 0, 1), some (.getfield 388, 3), none, none, some (.aload_n 0, 1), some (.getfield 389, 3), none, none, some (.iload_n 3, 1), some (.iastore, 1), some (.aload_n 0, 1), some (.dup, 1)],
  [some (.getfield 389, 3), none, none, some (.dup_x1, 1), some (.iconst 1, 1), some (.iadd, 1), some (.putfield 389, 3), none, none, some (.ireturn, 1)]])
def mc_X6_call : am_M := (99, false, [
  [some (.iconst (-1), 1), some (.istore 4, 2), none, some (.bipush 9, 2), none, some (.istore 5, 2), none, some (.iconst 0, 1), some (.istore 6, 2), none, some (.iconst 1, 1), some (.istore 7, 2), none, some (.iload 7, 2), none, some (.sipush 256, 3)],
  [none, none, some (.if_icmp .ge 119, 3), none, none, some (.iload 7, 2), none, some (.invokestatic 287, 3), none, none, some (.istore 8, 2), none, some (.iload 7, 2), none, some (.iload_n 1, 1), some (.iconst (-1), 1)],
  [some (.ixor, 1), some (.iand, 1), some (.ifCond .ne 97, 3), none, none, some (.iload 8, 2), none, some (.iload 5, 2), none, some (.if_icmp .le 6, 3), none, none, some (.goto 87, 3), none, none, some (.aload_n 0, 1)],
  [some (.getfield 390, 3), none, none, some (.iload 7, 2), none, some (.invokestatic 17967, 3), none, none, some (.istore 9, 2), none, some (.aload_n 0, 1), some (.getfield 390, 3), none, none, some (.iload 7, 2), none],
  [some (.iload_n 2, 1), some (.iand, 1), some (.invokestatic 17967, 3), none, none, some (.istore 10, 2), none, some (.iload 9, 2), none, some (.iload_n 3, 1), some (.if_icmp .lt 23, 3), none, none, some (.iload 10, 2), none, some (.iload 9, 2)],
  [none, some (.iload 10, 2), none, some (.isub, 1), some (.invokedynamic 4, 3), none, none, some (.iload_n 3, 1), some (.iconst 3, 1), some (.idiv, 1), some (.if_icmp .lt 7, 3), none, none, some (.iconst 1, 1), some (.goto 4, 3), none],
  [none, some (.iconst 0, 1), some (.istore 11, 2), none, some (.iload 11, 2), none, some (.ifCond .eq 29, 3), none, none, some (.iload 8, 2), none, some (.iload 5, 2), none, some (.if_icmp .lt 10, 3), none, none],
  [some (.iload 9, 2), none, some (.iload 6, 2), none, some (.if_icmp .le 15, 3), none, none, some (.iload 7, 2), none, some (.istore 4, 2), none, some (.iload 8, 2), none, some (.istore 5, 2), none, some (.iload 9, 2)],
  [none, some (.istore 6, 2), none, some (.iinc 7 1, 3), none, none, some (.goto (-121), 3), none, none, some (.iload 4, 2), none, some (.ireturn, 1)]])
def mc_X6_holdingToOne : am_M := (99, false, [
  [some (.iconst 0, 1), some (.istore_n 2, 1), some (.iconst 0, 1), some (.istore_n 3, 1), some (.iload_n 3, 1), some (.bipush 8, 2), none, some (.if_icmp .ge 20, 3), none, none, some (.iload_n 2, 1), some (.aload_n 0, 1), some (.iload_n 3, 1), some (.iload_n 1, 1), some (.invokevirtual 55350, 3), none],
  [none, some (.iload_n 3, 1), some (.ishl, 1), some (.ior, 1), some (.istore_n 2, 1), some (.iinc 3 1, 3), none, none, some (.goto (-20), 3), none, none, some (.iload_n 2, 1), some (.ireturn, 1)]])
def mc_X6_init : am_M := (6, false, [
  [some (.aload_n 0, 1), some (.invokespecial 31, 3), none, none, some (.aload_n 0, 1), some (.bipush 8, 2), none, some (.bipush 8, 2), none, some (.multianewarray 3 2, 4), none, none, none, some (.putfield 384, 3), none, none],
  [some (.aload_n 0, 1), some (.bipush 8, 2), none, some (.bipush 8, 2), none, some (.multianewarray 3 2, 4), none, none, none, some (.putfield 385, 3), none, none, some (.aload_n 0, 1), some (.bipush 30, 2), none, some (.newarray .int, 2)],
  [none, some (.putfield 386, 3), none, none, some (.aload_n 0, 1), some (.bipush 30, 2), none, some (.newarray .int, 2), none, some (.putfield 387, 3), none, none, some (.aload_n 0, 1), some (.bipush 30, 2), none, some (.newarray .int, 2)],
  [none, some (.putfield 388, 3), none, none, some (.aload_n 0, 1), some (.bipush 8, 2), none, some (.newarray .int, 2), none, some (.putfield 390, 3), none, none, some (.aload_n 0, 1), some (.bipush 8, 2), none, some (.newarray .int, 2)],
  [none, some (.putfield 391, 3), none, none, some (.iconst 0, 1), some (.istore_n 1, 1), some (.iload_n 1, 1), some (.bipush 8, 2), none, some (.if_icmp .ge 21, 3), none, none, some (.aload_n 0, 1), some (.getfield 384, 3), none, none],
  [some (.iload_n 1, 1), some (.aaload, 1), some (.sipush 999, 3), none, none, some (.invokestatic 815, 3), none, none, some (.iinc 1 1, 3), none, none, some (.goto (-21), 3), none, none, some (.aload_n 0, 1), some (.invokevirtual 54806, 3)],
  [none, none, some (.return_, 1)]])
def mc_X6_lay : am_M := (99, false, [
  [some (.aload_n 0, 1), some (.getfield 384, 3), none, none, some (.iload_n 1, 1), some (.aaload, 1), some (.iload_n 2, 1), some (.iload_n 3, 1), some (.iastore, 1), some (.aload_n 0, 1), some (.getfield 384, 3), none, none, some (.iload_n 2, 1), some (.aaload, 1), some (.iload_n 1, 1)],
  [some (.iload_n 3, 1), some (.iastore, 1), some (.aload_n 0, 1), some (.invokevirtual 54806, 3), none, none, some (.return_, 1)]])
def mc_X6_measure : am_M := (99, false, [
  [some (.iconst 0, 1), some (.istore_n 1, 1), some (.iload_n 1, 1), some (.bipush 8, 2), none, some (.if_icmp .ge 37, 3), none, none, some (.aload_n 0, 1), some (.getfield 384, 3), none, none, some (.iload_n 1, 1), some (.aaload, 1), some (.iconst 0, 1), some (.aload_n 0, 1)],
  [some (.getfield 385, 3), none, none, some (.iload_n 1, 1), some (.aaload, 1), some (.iconst 0, 1), some (.bipush 8, 2), none, some (.invokedynamic 0, 3), none, none, some (.aload_n 0, 1), some (.getfield 385, 3), none, none, some (.iload_n 1, 1)],
  [some (.aaload, 1), some (.iload_n 1, 1), some (.iconst 0, 1), some (.iastore, 1), some (.iinc 1 1, 3), none, none, some (.goto (-37), 3), none, none, some (.iconst 0, 1), some (.istore_n 1, 1), some (.iload_n 1, 1), some (.bipush 8, 2), none, some (.if_icmp .ge 73, 3)],
  [none, none, some (.iconst 0, 1), some (.istore_n 2, 1), some (.iload_n 2, 1), some (.bipush 8, 2), none, some (.if_icmp .ge 59, 3), none, none, some (.iconst 0, 1), some (.istore_n 3, 1), some (.iload_n 3, 1), some (.bipush 8, 2), none, some (.if_icmp .ge 45, 3)],
  [none, none, some (.aload_n 0, 1), some (.getfield 385, 3), none, none, some (.iload_n 2, 1), some (.aaload, 1), some (.iload_n 3, 1), some (.aload_n 0, 1), some (.getfield 385, 3), none, none, some (.iload_n 2, 1), some (.aaload, 1), some (.iload_n 3, 1)],
  [some (.iaload, 1), some (.aload_n 0, 1), some (.getfield 385, 3), none, none, some (.iload_n 2, 1), some (.aaload, 1), some (.iload_n 1, 1), some (.iaload, 1), some (.aload_n 0, 1), some (.getfield 385, 3), none, none, some (.iload_n 1, 1), some (.aaload, 1), some (.iload_n 3, 1)],
  [some (.iaload, 1), some (.iadd, 1), some (.invokedynamic 4, 3), none, none, some (.iastore, 1), some (.iinc 3 1, 3), none, none, some (.goto (-45), 3), none, none, some (.iinc 2 1, 3), none, none, some (.goto (-59), 3)],
  [none, none, some (.iinc 1 1, 3), none, none, some (.goto (-73), 3), none, none, some (.return_, 1)]])
def mc_X6_sideIfTurned : am_M := (99, false, [
  [some (.aload_n 0, 1), some (.iload_n 1, 1), some (.iload_n 2, 1), some (.invokevirtual 55606, 3), none, none, some (.istore 5, 2), none, some (.iload_n 3, 1), some (.iload_n 2, 1), some (.if_icmp .gt 23, 3), none, none, some (.iload 5, 2), none, some (.iconst (-1), 1)],
  [some (.if_icmp .eq 14, 3), none, none, some (.iload_n 3, 1), some (.aload_n 0, 1), some (.getfield 387, 3), none, none, some (.iload 5, 2), none, some (.iaload, 1), some (.if_icmp .lt 6, 3), none, none, some (.iload 4, 2), none],
  [some (.ireturn, 1), some (.iload 5, 2), none, some (.iconst (-1), 1), some (.if_icmp .ne 7, 3), none, none, some (.iconst 0, 1), some (.goto 10, 3), none, none, some (.aload_n 0, 1), some (.getfield 388, 3), none, none, some (.iload 5, 2)],
  [none, some (.iaload, 1), some (.ireturn, 1)]])
def mc_X6_sideOn : am_M := (99, false, [
  [some (.aload_n 0, 1), some (.iload_n 1, 1), some (.iload_n 2, 1), some (.invokevirtual 55606, 3), none, none, some (.istore_n 3, 1), some (.iload_n 3, 1), some (.iconst (-1), 1), some (.if_icmp .ne 7, 3), none, none, some (.iconst 0, 1), some (.goto 9, 3), none, none],
  [some (.aload_n 0, 1), some (.getfield 388, 3), none, none, some (.iload_n 3, 1), some (.iaload, 1), some (.ireturn, 1)]])
def mc_X6_turnOn : am_M := (99, false, [
  [some (.iconst (-1), 1), some (.istore_n 3, 1), some (.iconst 0, 1), some (.istore 4, 2), none, some (.iload 4, 2), none, some (.aload_n 0, 1), some (.getfield 389, 3), none, none, some (.if_icmp .ge 67, 3), none, none, some (.aload_n 0, 1), some (.getfield 386, 3)],
  [none, none, some (.iload 4, 2), none, some (.iaload, 1), some (.iload_n 1, 1), some (.if_icmp .ne 18, 3), none, none, some (.aload_n 0, 1), some (.getfield 387, 3), none, none, some (.iload 4, 2), none, some (.iaload, 1)],
  [some (.iload_n 2, 1), some (.if_icmp .gt 7, 3), none, none, some (.iconst 1, 1), some (.goto 4, 3), none, none, some (.iconst 0, 1), some (.istore 5, 2), none, some (.iload 5, 2), none, some (.ifCond .eq 27, 3), none, none],
  [some (.iload_n 3, 1), some (.iconst (-1), 1), some (.if_icmp .eq 19, 3), none, none, some (.aload_n 0, 1), some (.getfield 387, 3), none, none, some (.iload 4, 2), none, some (.iaload, 1), some (.aload_n 0, 1), some (.getfield 387, 3), none, none],
  [some (.iload_n 3, 1), some (.iaload, 1), some (.if_icmp .lt 6, 3), none, none, some (.iload 4, 2), none, some (.istore_n 3, 1), some (.iinc 4 1, 3), none, none, some (.goto (-70), 3), none, none, some (.iload_n 3, 1), some (.ireturn, 1)]])
def mc_X6_within : am_M := (99, false, [
  [some (.iconst 0, 1), some (.istore_n 3, 1), some (.iconst 0, 1), some (.istore 4, 2), none, some (.iload 4, 2), none, some (.bipush 8, 2), none, some (.if_icmp .ge 45, 3), none, none, some (.aload_n 0, 1), some (.getfield 385, 3), none, none],
  [some (.iload 4, 2), none, some (.aaload, 1), some (.iload_n 1, 1), some (.iaload, 1), some (.istore 5, 2), none, some (.iload_n 3, 1), some (.iload 5, 2), none, some (.sipush 999, 3), none, none, some (.if_icmp .eq 16, 3), none, none],
  [some (.iload 5, 2), none, some (.iload_n 2, 1), some (.if_icmp .gt 10, 3), none, none, some (.iconst 1, 1), some (.iload 4, 2), none, some (.ishl, 1), some (.goto 4, 3), none, none, some (.iconst 0, 1), some (.ior, 1), some (.istore_n 3, 1)],
  [some (.iinc 4 1, 3), none, none, some (.goto (-46), 3), none, none, some (.iload_n 3, 1), some (.ireturn, 1)]])
def mc_X7_init : am_M := (7, false, [
  [some (.aload_n 0, 1), some (.invokespecial 31, 3), none, none, some (.aload_n 0, 1), some (.bipush 12, 2), none, some (.newarray .int, 2), none, some (.putfield 448, 3), none, none, some (.aload_n 0, 1), some (.bipush 6, 2), none, some (.newarray .int, 2)],
  [none, some (.putfield 450, 3), none, none, some (.aload_n 0, 1), some (.bipush 6, 2), none, some (.newarray .int, 2), none, some (.putfield 451, 3), none, none, some (.aload_n 0, 1), some (.getfield 451, 3), none, none],
  [some (.iconst (-1), 1), some (.invokestatic 815, 3), none, none, some (.return_, 1)]])
def mc_X8_advance : am_M := (99, false, [
  [some (.aload_n 0, 1), some (.getfield 520, 3), none, none, some (.sipush 160, 3), none, none, some (.if_icmp .ge 13, 3), none, none, some (.aload_n 0, 1), some (.dup, 1), some (.getfield 520, 3), none, none, some (.iconst 1, 1)],
  [some (.iadd, 1), some (.putfield 520, 3), none, none, some (.aload_n 0, 1), some (.aload_n 0, 1), some (.getfield 517, 3), none, none, some (.aload_n 0, 1), some (.getfield 520, 3), none, none, some (.iaload, 1), some (.putfield 521, 3), none],
  [none, some (.return_, 1)]])
def mc_X8_append : am_M := (99, false, [
  [some (.iconst 0, 1), some (.istore 4, 2), none, some (.iload 4, 2), none, some (.iload_n 1, 1), some (.if_icmp .ge 44, 3), none, none, some (.aload_n 0, 1), some (.getfield 513, 3), none, none, some (.sipush 160, 3), none, none],
  [some (.if_icmp .ge 34, 3), none, none, some (.aload_n 0, 1), some (.getfield 512, 3), none, none, some (.aload_n 0, 1), some (.dup, 1), some (.getfield 513, 3), none, none, some (.dup_x1, 1), some (.iconst 1, 1), some (.iadd, 1), some (.putfield 513, 3)],
  [none, none, some (.lload_n 2, 1), some (.bipush 8, 2), none, some (.iload 4, 2), none, some (.imul, 1), some (.lshr, 1), some (.l2i, 1), some (.i2b, 1), some (.bastore, 1), some (.iinc 4 1, 3), none, none, some (.goto (-44), 3)],
  [none, none, some (.return_, 1)]])
def mc_X8_expect : am_M := (99, false, [
  [some (.aload_n 0, 1), some (.getfield 521, 3), none, none, some (.iload_n 1, 1), some (.if_icmp .ne 10, 3), none, none, some (.aload_n 0, 1), some (.invokevirtual 56344, 3), none, none, some (.goto 7, 3), none, none, some (.aload_n 0, 1)],
  [some (.invokevirtual 57112, 3), none, none, some (.return_, 1)]])
def mc_X8_fail : am_M := (99, false, [
  [some (.aload_n 0, 1), some (.getfield 522, 3), none, none, some (.iconst (-1), 1), some (.if_icmp .ne 16, 3), none, none, some (.aload_n 0, 1), some (.aload_n 0, 1), some (.getfield 518, 3), none, none, some (.aload_n 0, 1), some (.getfield 520, 3), none],
  [none, some (.iaload, 1), some (.putfield 522, 3), none, none, some (.aload_n 0, 1), some (.iconst 1, 1), some (.putfield 521, 3), none, none, some (.return_, 1)]])
def mc_X8_findNumber : am_M := (99, false, [
  [some (.iconst 0, 1), some (.istore_n 2, 1), some (.aload_n 0, 1), some (.getfield 516, 3), none, none, some (.aload_n 0, 1), some (.getfield 513, 3), none, none, some (.if_icmp .ge 49, 3), none, none, some (.aload_n 0, 1), some (.getfield 512, 3), none],
  [none, some (.aload_n 0, 1), some (.getfield 516, 3), none, none, some (.baload, 1), some (.invokestatic 58655, 3), none, none, some (.ifCond .eq 34, 3), none, none, some (.iload_n 2, 1), some (.bipush 10, 2), none, some (.imul, 1)],
  [some (.aload_n 0, 1), some (.getfield 512, 3), none, none, some (.aload_n 0, 1), some (.getfield 516, 3), none, none, some (.baload, 1), some (.bipush 48, 2), none, some (.isub, 1), some (.iadd, 1), some (.istore_n 2, 1), some (.aload_n 0, 1), some (.dup, 1)],
  [some (.getfield 516, 3), none, none, some (.iconst 1, 1), some (.iadd, 1), some (.putfield 516, 3), none, none, some (.goto (-54), 3), none, none, some (.aload_n 0, 1), some (.getfield 519, 3), none, none, some (.iload_n 1, 1)],
  [some (.iload_n 2, 1), some (.iastore, 1), some (.aload_n 0, 1), some (.getfield 516, 3), none, none, some (.aload_n 0, 1), some (.getfield 518, 3), none, none, some (.iload_n 1, 1), some (.iaload, 1), some (.isub, 1), some (.iconst 4, 1), some (.if_icmp .gt 7, 3), none],
  [none, some (.iconst 2, 1), some (.goto 4, 3), none, none, some (.iconst 1, 1), some (.ireturn, 1)]])
def mc_X8_findToken : am_M := (99, false, [
  [some (.aload_n 0, 1), some (.getfield 516, 3), none, none, some (.aload_n 0, 1), some (.getfield 513, 3), none, none, some (.if_icmp .lt 5, 3), none, none, some (.iconst 0, 1), some (.ireturn, 1), some (.aload_n 0, 1), some (.getfield 512, 3), none],
  [none, some (.aload_n 0, 1), some (.getfield 516, 3), none, none, some (.baload, 1), some (.invokestatic 58911, 3), none, none, some (.ifCond .eq 9, 3), none, none, some (.aload_n 0, 1), some (.iload_n 1, 1), some (.invokevirtual 58152, 3), none],
  [none, some (.ireturn, 1), some (.aload_n 0, 1), some (.getfield 512, 3), none, none, some (.aload_n 0, 1), some (.getfield 516, 3), none, none, some (.baload, 1), some (.invokestatic 58655, 3), none, none, some (.ifCond .eq 9, 3), none],
  [none, some (.aload_n 0, 1), some (.iload_n 1, 1), some (.invokevirtual 57384, 3), none, none, some (.ireturn, 1), some (.aload_n 0, 1), some (.getfield 512, 3), none, none, some (.aload_n 0, 1), some (.dup, 1), some (.getfield 516, 3), none, none],
  [some (.dup_x1, 1), some (.iconst 1, 1), some (.iadd, 1), some (.putfield 516, 3), none, none, some (.baload, 1), some (.istore_n 2, 1), some (.iload_n 2, 1), some (.invokestatic 59167, 3), none, none, some (.ifCond .eq 7, 3), none, none, some (.iload_n 2, 1)],
  [some (.goto 4, 3), none, none, some (.iconst 1, 1), some (.ireturn, 1)]])
def mc_X8_findTokens : am_M := (99, false, [
  [some (.aload_n 0, 1), some (.iconst 0, 1), some (.putfield 516, 3), none, none, some (.iconst 0, 1), some (.istore_n 1, 1), some (.iload_n 1, 1), some (.sipush 160, 3), none, none, some (.if_icmp .gt 54, 3), none, none, some (.aload_n 0, 1), some (.invokevirtual 62232, 3)],
  [none, none, some (.aload_n 0, 1), some (.getfield 518, 3), none, none, some (.iload_n 1, 1), some (.aload_n 0, 1), some (.getfield 516, 3), none, none, some (.iastore, 1), some (.aload_n 0, 1), some (.getfield 517, 3), none, none],
  [some (.iload_n 1, 1), some (.aload_n 0, 1), some (.iload_n 1, 1), some (.invokevirtual 57640, 3), none, none, some (.iastore, 1), some (.aload_n 0, 1), some (.getfield 517, 3), none, none, some (.iload_n 1, 1), some (.iaload, 1), some (.ifCond .eq 13, 3), none, none],
  [some (.aload_n 0, 1), some (.getfield 517, 3), none, none, some (.iload_n 1, 1), some (.iaload, 1), some (.iconst 1, 1), some (.if_icmp .ne 4, 3), none, none, some (.return_, 1), some (.iinc 1 1, 3), none, none, some (.goto (-55), 3), none],
  [none, some (.return_, 1)]])
def mc_X8_findWord : am_M := (99, false, [
  [some (.aload_n 0, 1), some (.getfield 516, 3), none, none, some (.aload_n 0, 1), some (.getfield 513, 3), none, none, some (.if_icmp .ge 31, 3), none, none, some (.aload_n 0, 1), some (.getfield 512, 3), none, none, some (.aload_n 0, 1)],
  [some (.getfield 516, 3), none, none, some (.baload, 1), some (.invokestatic 58911, 3), none, none, some (.ifCond .eq 16, 3), none, none, some (.aload_n 0, 1), some (.dup, 1), some (.getfield 516, 3), none, none, some (.iconst 1, 1)],
  [some (.iadd, 1), some (.putfield 516, 3), none, none, some (.goto (-36), 3), none, none, some (.aload_n 0, 1), some (.getfield 519, 3), none, none, some (.iload_n 1, 1), some (.aload_n 0, 1), some (.aload_n 0, 1), some (.getfield 518, 3), none],
  [none, some (.iload_n 1, 1), some (.iaload, 1), some (.invokevirtual 59944, 3), none, none, some (.iastore, 1), some (.aload_n 0, 1), some (.getfield 519, 3), none, none, some (.iload_n 1, 1), some (.iaload, 1), some (.ifCond .ge 7, 3), none, none],
  [some (.iconst 3, 1), some (.goto 13, 3), none, none, some (.aload_n 0, 1), some (.aload_n 0, 1), some (.getfield 518, 3), none, none, some (.iload_n 1, 1), some (.iaload, 1), some (.invokevirtual 59432, 3), none, none, some (.ireturn, 1)]])
def mc_X8_init : am_M := (8, false, [
  [some (.aload_n 0, 1), some (.invokespecial 31, 3), none, none, some (.aload_n 0, 1), some (.sipush 160, 3), none, none, some (.newarray .byte, 2), none, some (.putfield 512, 3), none, none, some (.aload_n 0, 1), some (.sipush 161, 3), none],
  [none, some (.newarray .int, 2), none, some (.putfield 517, 3), none, none, some (.aload_n 0, 1), some (.sipush 161, 3), none, none, some (.newarray .int, 2), none, some (.putfield 518, 3), none, none, some (.aload_n 0, 1)],
  [some (.sipush 161, 3), none, none, some (.newarray .int, 2), none, some (.putfield 519, 3), none, none, some (.aload_n 0, 1), some (.sipush 160, 3), none, none, some (.newarray .int, 2), none, some (.putfield 523, 3), none],
  [none, some (.return_, 1)]])
def mc_X8_isDigit : am_M := (99, true, [
  [some (.iload_n 0, 1), some (.bipush 48, 2), none, some (.if_icmp .lt 13, 3), none, none, some (.iload_n 0, 1), some (.bipush 57, 2), none, some (.if_icmp .gt 7, 3), none, none, some (.iconst 1, 1), some (.goto 4, 3), none, none],
  [some (.iconst 0, 1), some (.ireturn, 1)]])
def mc_X8_isLetter : am_M := (99, true, [
  [some (.iload_n 0, 1), some (.bipush 97, 2), none, some (.if_icmp .lt 13, 3), none, none, some (.iload_n 0, 1), some (.bipush 122, 2), none, some (.if_icmp .gt 7, 3), none, none, some (.iconst 1, 1), some (.goto 4, 3), none, none],
  [some (.iconst 0, 1), some (.ireturn, 1)]])
def mc_X8_isSign : am_M := (99, true, [
  [some (.iload_n 0, 1), some (.bipush 40, 2), none, some (.if_icmp .eq 45, 3), none, none, some (.iload_n 0, 1), some (.bipush 41, 2), none, some (.if_icmp .eq 39, 3), none, none, some (.iload_n 0, 1), some (.bipush 59, 2), none, some (.if_icmp .eq 33, 3)],
  [none, none, some (.iload_n 0, 1), some (.bipush 43, 2), none, some (.if_icmp .eq 27, 3), none, none, some (.iload_n 0, 1), some (.bipush 45, 2), none, some (.if_icmp .eq 21, 3), none, none, some (.iload_n 0, 1), some (.bipush 42, 2)],
  [none, some (.if_icmp .eq 15, 3), none, none, some (.iload_n 0, 1), some (.bipush 60, 2), none, some (.if_icmp .eq 9, 3), none, none, some (.iload_n 0, 1), some (.bipush 61, 2), none, some (.if_icmp .ne 7, 3), none, none],
  [some (.iconst 1, 1), some (.goto 4, 3), none, none, some (.iconst 0, 1), some (.ireturn, 1)]])
def mc_X8_keyFrom : am_M := (99, false, [
  [some (.aload_n 0, 1), some (.iload_n 1, 1), some (.ldc 6, 2), none, some (.invokevirtual 62520, 3), none, none, some (.ifCond .eq 5, 3), none, none, some (.iconst 4, 1), some (.ireturn, 1), some (.aload_n 0, 1), some (.iload_n 1, 1), some (.ldc 7, 2), none],
  [some (.invokevirtual 62520, 3), none, none, some (.ifCond .eq 5, 3), none, none, some (.iconst 5, 1), some (.ireturn, 1), some (.aload_n 0, 1), some (.iload_n 1, 1), some (.ldc 8, 2), none, some (.invokevirtual 62520, 3), none, none, some (.ifCond .eq 6, 3)],
  [none, none, some (.bipush 6, 2), none, some (.ireturn, 1), some (.aload_n 0, 1), some (.iload_n 1, 1), some (.ldc 9, 2), none, some (.invokevirtual 62520, 3), none, none, some (.ifCond .eq 6, 3), none, none, some (.bipush 7, 2)],
  [none, some (.ireturn, 1), some (.aload_n 0, 1), some (.iload_n 1, 1), some (.ldc 10, 2), none, some (.invokevirtual 62520, 3), none, none, some (.ifCond .eq 6, 3), none, none, some (.bipush 8, 2), none, some (.ireturn, 1), some (.iconst 1, 1)],
  [some (.ireturn, 1)]])
def mc_X8_mayOpen : am_M := (99, true, [
  [some (.iload_n 1, 1), some (.iconst 5, 1), some (.if_icmp .lt 9, 3), none, none, some (.aload_n 0, 1), some (.invokevirtual 57112, 3), none, none, some (.iconst 0, 1), some (.ireturn, 1), some (.aload_n 0, 1), some (.invokevirtual 56344, 3), none, none, some (.iconst 1, 1)],
  [some (.ireturn, 1)]])
def mc_X8_nameFrom : am_M := (99, false, [
  [some (.aload_n 0, 1), some (.iload_n 1, 1), some (.ldc 0, 2), none, some (.invokevirtual 62520, 3), none, none, some (.ifCond .eq 5, 3), none, none, some (.iconst (-1), 1), some (.ireturn, 1), some (.aload_n 0, 1), some (.iload_n 1, 1), some (.ldc 1, 2), none],
  [some (.invokevirtual 62520, 3), none, none, some (.ifCond .eq 6, 3), none, none, some (.bipush (-2), 2), none, some (.ireturn, 1), some (.aload_n 0, 1), some (.iload_n 1, 1), some (.ldc 2, 2), none, some (.invokevirtual 62520, 3), none, none],
  [some (.ifCond .eq 6, 3), none, none, some (.bipush (-3), 2), none, some (.ireturn, 1), some (.aload_n 0, 1), some (.iload_n 1, 1), some (.ldc 3, 2), none, some (.invokevirtual 62520, 3), none, none, some (.ifCond .eq 6, 3), none, none],
  [some (.bipush (-4), 2), none, some (.ireturn, 1), some (.aload_n 0, 1), some (.iload_n 1, 1), some (.ldc 4, 2), none, some (.invokevirtual 62520, 3), none, none, some (.ifCond .eq 6, 3), none, none, some (.bipush (-5), 2), none, some (.ireturn, 1)],
  [some (.aload_n 0, 1), some (.iload_n 1, 1), some (.ldc 5, 2), none, some (.invokevirtual 62520, 3), none, none, some (.ifCond .eq 6, 3), none, none, some (.bipush (-6), 2), none, some (.ireturn, 1), some (.iconst 0, 1), some (.ireturn, 1)]])
def mc_X8_readBoth : am_M := (99, false, [
  [some (.aload_n 0, 1), some (.iload_n 1, 1), some (.invokevirtual 60712, 3), none, none, some (.iconst 0, 1), some (.istore_n 2, 1), some (.iload_n 2, 1), some (.sipush 160, 3), none, none, some (.if_icmp .ge 33, 3), none, none, some (.aload_n 0, 1), some (.getfield 521, 3)],
  [none, none, some (.bipush 7, 2), none, some (.if_icmp .ne 24, 3), none, none, some (.aload_n 0, 1), some (.invokevirtual 56344, 3), none, none, some (.aload_n 0, 1), some (.iload_n 1, 1), some (.invokevirtual 60712, 3), none, none],
  [some (.aload_n 0, 1), some (.bipush (-10), 2), none, some (.invokevirtual 62760, 3), none, none, some (.iinc 2 1, 3), none, none, some (.goto (-34), 3), none, none, some (.return_, 1)]])
def mc_X8_readEither : am_M := (99, false, [
  [some (.aload_n 0, 1), some (.iload_n 1, 1), some (.invokevirtual 60200, 3), none, none, some (.iconst 0, 1), some (.istore_n 2, 1), some (.iload_n 2, 1), some (.sipush 160, 3), none, none, some (.if_icmp .ge 33, 3), none, none, some (.aload_n 0, 1), some (.getfield 521, 3)],
  [none, none, some (.bipush 6, 2), none, some (.if_icmp .ne 24, 3), none, none, some (.aload_n 0, 1), some (.invokevirtual 56344, 3), none, none, some (.aload_n 0, 1), some (.iload_n 1, 1), some (.invokevirtual 60200, 3), none, none],
  [some (.aload_n 0, 1), some (.bipush (-9), 2), none, some (.invokevirtual 62760, 3), none, none, some (.iinc 2 1, 3), none, none, some (.goto (-34), 3), none, none, some (.return_, 1)]])
def mc_X8_readNot : am_M := (99, false, [
  [some (.aload_n 0, 1), some (.getfield 521, 3), none, none, some (.bipush 8, 2), none, some (.if_icmp .ne 25, 3), none, none, some (.aload_n 0, 1), some (.iload_n 1, 1), some (.invokevirtual 59688, 3), none, none, some (.ifCond .eq 16, 3), none],
  [none, some (.aload_n 0, 1), some (.iload_n 1, 1), some (.iconst 1, 1), some (.iadd, 1), some (.invokevirtual 60712, 3), none, none, some (.aload_n 0, 1), some (.bipush (-7), 2), none, some (.invokevirtual 62760, 3), none, none, some (.return_, 1), some (.aload_n 0, 1)],
  [some (.iload_n 1, 1), some (.invokevirtual 61480, 3), none, none, some (.aload_n 0, 1), some (.getfield 521, 3), none, none, some (.bipush 60, 2), none, some (.if_icmp .eq 12, 3), none, none, some (.aload_n 0, 1), some (.getfield 521, 3), none],
  [none, some (.bipush 61, 2), none, some (.if_icmp .ne 34, 3), none, none, some (.aload_n 0, 1), some (.getfield 521, 3), none, none, some (.bipush 60, 2), none, some (.if_icmp .ne 8, 3), none, none, some (.bipush (-11), 2)],
  [none, some (.goto 5, 3), none, none, some (.bipush (-12), 2), none, some (.istore_n 2, 1), some (.aload_n 0, 1), some (.invokevirtual 56344, 3), none, none, some (.aload_n 0, 1), some (.iload_n 1, 1), some (.invokevirtual 61480, 3), none, none],
  [some (.aload_n 0, 1), some (.iload_n 2, 1), some (.invokevirtual 62760, 3), none, none, some (.return_, 1)]])
def mc_X8_readOne : am_M := (99, false, [
  [some (.aload_n 0, 1), some (.getfield 521, 3), none, none, some (.iconst 2, 1), some (.if_icmp .eq 11, 3), none, none, some (.aload_n 0, 1), some (.getfield 521, 3), none, none, some (.iconst 3, 1), some (.if_icmp .ne 23, 3), none, none],
  [some (.aload_n 0, 1), some (.aload_n 0, 1), some (.getfield 519, 3), none, none, some (.aload_n 0, 1), some (.getfield 520, 3), none, none, some (.iaload, 1), some (.invokevirtual 62760, 3), none, none, some (.aload_n 0, 1), some (.invokevirtual 56344, 3), none],
  [none, some (.goto 73, 3), none, none, some (.aload_n 0, 1), some (.getfield 521, 3), none, none, some (.bipush 45, 2), none, some (.if_icmp .ne 27, 3), none, none, some (.aload_n 0, 1), some (.iload_n 1, 1), some (.invokevirtual 59688, 3)],
  [none, none, some (.ifCond .eq 56, 3), none, none, some (.aload_n 0, 1), some (.iload_n 1, 1), some (.iconst 1, 1), some (.iadd, 1), some (.invokevirtual 60968, 3), none, none, some (.aload_n 0, 1), some (.bipush (-8), 2), none, some (.invokevirtual 62760, 3)],
  [none, none, some (.goto 40, 3), none, none, some (.aload_n 0, 1), some (.getfield 521, 3), none, none, some (.bipush 40, 2), none, some (.if_icmp .ne 27, 3), none, none, some (.aload_n 0, 1), some (.iload_n 1, 1)],
  [some (.invokevirtual 59688, 3), none, none, some (.ifCond .eq 23, 3), none, none, some (.aload_n 0, 1), some (.iload_n 1, 1), some (.iconst 1, 1), some (.iadd, 1), some (.invokevirtual 60456, 3), none, none, some (.aload_n 0, 1), some (.bipush 41, 2), none],
  [some (.invokevirtual 56872, 3), none, none, some (.goto 7, 3), none, none, some (.aload_n 0, 1), some (.invokevirtual 57112, 3), none, none, some (.return_, 1)]])
def mc_X8_readPart : am_M := (99, false, [
  [some (.aload_n 0, 1), some (.iconst 0, 1), some (.putfield 524, 3), none, none, some (.aload_n 0, 1), some (.iload_n 1, 1), some (.invokevirtual 56872, 3), none, none, some (.aload_n 0, 1), some (.iconst 0, 1), some (.invokevirtual 60456, 3), none, none, some (.aload_n 0, 1)],
  [some (.bipush 59, 2), none, some (.invokevirtual 56872, 3), none, none, some (.aload_n 0, 1), some (.getfield 522, 3), none, none, some (.iconst (-1), 1), some (.if_icmp .ne 24, 3), none, none, some (.new 5, 3), none, none],
  [some (.dup, 1), some (.aload_n 0, 1), some (.getfield 523, 3), none, none, some (.aload_n 0, 1), some (.getfield 524, 3), none, none, some (.invokestatic 559, 3), none, none, some (.invokespecial 52783, 3), none, none, some (.goto 4, 3)],
  [none, none, some (.aconst_null, 1), some (.areturn, 1)]])
def mc_X8_readSum : am_M := (99, false, [
  [some (.aload_n 0, 1), some (.iload_n 1, 1), some (.invokevirtual 61992, 3), none, none, some (.iconst 0, 1), some (.istore_n 2, 1), some (.iload_n 2, 1), some (.sipush 160, 3), none, none, some (.if_icmp .ge 58, 3), none, none, some (.aload_n 0, 1), some (.getfield 521, 3)],
  [none, none, some (.bipush 43, 2), none, some (.if_icmp .eq 12, 3), none, none, some (.aload_n 0, 1), some (.getfield 521, 3), none, none, some (.bipush 45, 2), none, some (.if_icmp .ne 40, 3), none, none],
  [some (.aload_n 0, 1), some (.getfield 521, 3), none, none, some (.bipush 43, 2), none, some (.if_icmp .ne 8, 3), none, none, some (.bipush (-13), 2), none, some (.goto 5, 3), none, none, some (.bipush (-14), 2), none],
  [some (.istore_n 3, 1), some (.aload_n 0, 1), some (.invokevirtual 56344, 3), none, none, some (.aload_n 0, 1), some (.iload_n 1, 1), some (.invokevirtual 61992, 3), none, none, some (.aload_n 0, 1), some (.iload_n 3, 1), some (.invokevirtual 62760, 3), none, none, some (.iinc 2 1, 3)],
  [none, none, some (.goto (-59), 3), none, none, some (.return_, 1)]])
def mc_X8_readTape : am_M := (99, false, [
  [some (.aload_n 0, 1), some (.invokevirtual 57880, 3), none, none, some (.aload_n 0, 1), some (.iconst 0, 1), some (.putfield 513, 3), none, none, some (.aload_n 0, 1), some (.iconst (-1), 1), some (.putfield 522, 3), none, none, some (.aload_n 0, 1), some (.iconst 0, 1)],
  [some (.putfield 520, 3), none, none, some (.aload_n 0, 1), some (.aload_n 0, 1), some (.getfield 517, 3), none, none, some (.iconst 0, 1), some (.iaload, 1), some (.putfield 521, 3), none, none, some (.aload_n 0, 1), some (.aload_n 0, 1), some (.iconst 4, 1)],
  [some (.invokevirtual 61224, 3), none, none, some (.putfield 514, 3), none, none, some (.aload_n 0, 1), some (.aload_n 0, 1), some (.iconst 5, 1), some (.invokevirtual 61224, 3), none, none, some (.putfield 515, 3), none, none, some (.aload_n 0, 1)],
  [some (.getfield 521, 3), none, none, some (.ifCond .eq 7, 3), none, none, some (.aload_n 0, 1), some (.invokevirtual 57112, 3), none, none, some (.aload_n 0, 1), some (.getfield 522, 3), none, none, some (.ireturn, 1)]])
def mc_X8_readTerm : am_M := (99, false, [
  [some (.aload_n 0, 1), some (.iload_n 1, 1), some (.invokevirtual 60968, 3), none, none, some (.iconst 0, 1), some (.istore_n 2, 1), some (.iload_n 2, 1), some (.sipush 160, 3), none, none, some (.if_icmp .ge 33, 3), none, none, some (.aload_n 0, 1), some (.getfield 521, 3)],
  [none, none, some (.bipush 42, 2), none, some (.if_icmp .ne 24, 3), none, none, some (.aload_n 0, 1), some (.invokevirtual 56344, 3), none, none, some (.aload_n 0, 1), some (.iload_n 1, 1), some (.invokevirtual 60968, 3), none, none],
  [some (.aload_n 0, 1), some (.bipush (-15), 2), none, some (.invokevirtual 62760, 3), none, none, some (.iinc 2 1, 3), none, none, some (.goto (-34), 3), none, none, some (.return_, 1)]])
def mc_X8_skipBlanks : am_M := (99, false, [
  [some (.aload_n 0, 1), some (.getfield 516, 3), none, none, some (.aload_n 0, 1), some (.getfield 513, 3), none, none, some (.if_icmp .ge 44, 3), none, none, some (.aload_n 0, 1), some (.getfield 512, 3), none, none, some (.aload_n 0, 1)],
  [some (.getfield 516, 3), none, none, some (.baload, 1), some (.bipush 32, 2), none, some (.if_icmp .eq 17, 3), none, none, some (.aload_n 0, 1), some (.getfield 512, 3), none, none, some (.aload_n 0, 1), some (.getfield 516, 3), none],
  [none, some (.baload, 1), some (.bipush 10, 2), none, some (.if_icmp .ne 16, 3), none, none, some (.aload_n 0, 1), some (.dup, 1), some (.getfield 516, 3), none, none, some (.iconst 1, 1), some (.iadd, 1), some (.putfield 516, 3), none],
  [none, some (.goto (-49), 3), none, none, some (.return_, 1)]])
def mc_X8_spells : am_M := (99, true, [
  [some (.aload_n 0, 1), some (.getfield 516, 3), none, none, some (.iload_n 1, 1), some (.isub, 1), some (.aload_n 2, 1), some (.invokedynamic 2, 3), none, none, some (.if_icmp .eq 5, 3), none, none, some (.iconst 0, 1), some (.ireturn, 1), some (.iconst 0, 1)],
  [some (.istore_n 3, 1), some (.iload_n 3, 1), some (.aload_n 2, 1), some (.invokedynamic 2, 3), none, none, some (.if_icmp .ge 27, 3), none, none, some (.aload_n 0, 1), some (.getfield 512, 3), none, none, some (.iload_n 1, 1), some (.iload_n 3, 1), some (.iadd, 1)],
  [some (.baload, 1), some (.aload_n 2, 1), some (.iload_n 3, 1), some (.invokedynamic 3, 3), none, none, some (.if_icmp .eq 5, 3), none, none, some (.iconst 0, 1), some (.ireturn, 1), some (.iinc 3 1, 3), none, none, some (.goto (-29), 3), none],
  [none, some (.iconst 1, 1), some (.ireturn, 1)]])
def mc_X8_write : am_M := (99, false, [
  [some (.aload_n 0, 1), some (.getfield 524, 3), none, none, some (.sipush 160, 3), none, none, some (.if_icmp .ge 20, 3), none, none, some (.aload_n 0, 1), some (.getfield 523, 3), none, none, some (.aload_n 0, 1), some (.dup, 1)],
  [some (.getfield 524, 3), none, none, some (.dup_x1, 1), some (.iconst 1, 1), some (.iadd, 1), some (.putfield 524, 3), none, none, some (.iload_n 1, 1), some (.iastore, 1), some (.return_, 1)]])
def mc_X9_add : am_M := (99, false, [
  [some (.aload_n 0, 1), some (.getfield 576, 3), none, none, some (.aload_n 0, 1), some (.getfield 580, 3), none, none, some (.iload_n 1, 1), some (.iastore, 1), some (.aload_n 0, 1), some (.getfield 577, 3), none, none, some (.aload_n 0, 1), some (.getfield 580, 3)],
  [none, none, some (.iload_n 2, 1), some (.iastore, 1), some (.aload_n 0, 1), some (.getfield 578, 3), none, none, some (.aload_n 0, 1), some (.getfield 580, 3), none, none, some (.iload_n 3, 1), some (.iastore, 1), some (.aload_n 0, 1), some (.getfield 579, 3)],
  [none, none, some (.aload_n 0, 1), some (.getfield 580, 3), none, none, some (.iload 4, 2), none, some (.iastore, 1), some (.aload_n 0, 1), some (.dup, 1), some (.getfield 580, 3), none, none, some (.dup_x1, 1), some (.iconst 1, 1)],
  [some (.iadd, 1), some (.putfield 580, 3), none, none, some (.ireturn, 1)]])
def mc_X9_init : am_M := (9, false, [
  [some (.aload_n 0, 1), some (.invokespecial 31, 3), none, none, some (.aload_n 0, 1), some (.bipush 30, 2), none, some (.newarray .int, 2), none, some (.putfield 576, 3), none, none, some (.aload_n 0, 1), some (.bipush 30, 2), none, some (.newarray .int, 2)],
  [none, some (.putfield 577, 3), none, none, some (.aload_n 0, 1), some (.bipush 30, 2), none, some (.newarray .int, 2), none, some (.putfield 578, 3), none, none, some (.aload_n 0, 1), some (.bipush 30, 2), none, some (.newarray .int, 2)],
  [none, some (.putfield 579, 3), none, none, some (.return_, 1)]])
def mc_X9_owedAgain : am_M := (99, false, [
  [some (.lconst 0, 1), some (.lstore 4, 2), none, some (.iconst 0, 1), some (.istore 6, 2), none, some (.iload 6, 2), none, some (.aload_n 0, 1), some (.getfield 580, 3), none, none, some (.if_icmp .ge 84, 3), none, none, some (.aload_n 1, 1)],
  [some (.iload_n 2, 1), some (.aload_n 0, 1), some (.getfield 576, 3), none, none, some (.iload 6, 2), none, some (.iaload, 1), some (.aload_n 0, 1), some (.getfield 579, 3), none, none, some (.iload 6, 2), none, some (.iaload, 1), some (.invokevirtual 47681, 3)],
  [none, none, some (.istore 7, 2), none, some (.iload 7, 2), none, some (.iconst (-1), 1), some (.if_icmp .eq 19, 3), none, none, some (.iload 7, 2), none, some (.aload_n 0, 1), some (.getfield 577, 3), none, none],
  [some (.iload 6, 2), none, some (.iaload, 1), some (.if_icmp .eq 7, 3), none, none, some (.iconst 1, 1), some (.goto 4, 3), none, none, some (.iconst 0, 1), some (.istore 8, 2), none, some (.iload 8, 2), none, some (.ifCond .eq 27, 3)],
  [none, none, some (.iload_n 3, 1), some (.iconst (-1), 1), some (.if_icmp .eq 9, 3), none, none, some (.iload_n 3, 1), some (.iload 7, 2), none, some (.if_icmp .ne 16, 3), none, none, some (.lload 4, 2), none, some (.aload_n 0, 1)],
  [some (.getfield 578, 3), none, none, some (.iload 6, 2), none, some (.iaload, 1), some (.i2l, 1), some (.ladd, 1), some (.lstore 4, 2), none, some (.iinc 6 1, 3), none, none, some (.goto (-87), 3), none, none],
  [some (.lload 4, 2), none, some (.lreturn, 1)]])
abbrev ix_objinit : Nat := 0
abbrev ix_J6_bitCount_0f7a4 : Nat := 1
abbrev ix_J7_copyOf_59c91 : Nat := 2
abbrev ix_J7_fill_53178 : Nat := 3
abbrev ix_J9_min : Nat := 4
abbrev ix_L_law : Nat := 5
abbrev ix_X0_add : Nat := 6
abbrev ix_X0_init : Nat := 7
abbrev ix_X0_isBetter : Nat := 8
abbrev ix_X0_settled : Nat := 9
abbrev ix_X0_takersOf : Nat := 10
abbrev ix_X0_undoneBy : Nat := 11
abbrev ix_X10_become : Nat := 12
abbrev ix_X10_holds : Nat := 13
abbrev ix_X10_init : Nat := 14
abbrev ix_X10_isMissing : Nat := 15
abbrev ix_X10_put : Nat := 16
abbrev ix_X11_act : Nat := 17
abbrev ix_X11_actTold : Nat := 18
abbrev ix_X11_acts : Nat := 19
abbrev ix_X11_against : Nat := 20
abbrev ix_X11_bought : Nat := 21
abbrev ix_X11_bound : Nat := 22
abbrev ix_X11_byRight : Nat := 23
abbrev ix_X11_cell : Nat := 24
abbrev ix_X11_changed : Nat := 25
abbrev ix_X11_clash : Nat := 26
abbrev ix_X11_clause : Nat := 27
abbrev ix_X11_copy : Nat := 28
abbrev ix_X11_council : Nat := 29
abbrev ix_X11_count : Nat := 30
abbrev ix_X11_crossed : Nat := 31
abbrev ix_X11_elector : Nat := 32
abbrev ix_X11_far : Nat := 33
abbrev ix_X11_feed : Nat := 34
abbrev ix_X11_felled : Nat := 35
abbrev ix_X11_goTogether : Nat := 36
abbrev ix_X11_hang : Nat := 37
abbrev ix_X11_has : Nat := 38
abbrev ix_X11_inForce : Nat := 39
abbrev ix_X11_init : Nat := 40
abbrev ix_X11_isAct : Nat := 41
abbrev ix_X11_isClause : Nat := 42
abbrev ix_X11_isDay : Nat := 43
abbrev ix_X11_isLand : Nat := 44
abbrev ix_X11_isOffice : Nat := 45
abbrev ix_X11_isPerson : Nat := 46
abbrev ix_X11_isSheet : Nat := 47
abbrev ix_X11_isSide : Nat := 48
abbrev ix_X11_isUnder : Nat := 49
abbrev ix_X11_isWithin : Nat := 50
abbrev ix_X11_journey : Nat := 51
abbrev ix_X11_known : Nat := 52
abbrev ix_X11_lift : Nat := 53
abbrev ix_X11_office : Nat := 54
abbrev ix_X11_officeTold : Nat := 55
abbrev ix_X11_owed : Nat := 56
abbrev ix_X11_pay : Nat := 57
abbrev ix_X11_person : Nat := 58
abbrev ix_X11_quarrels : Nat := 59
abbrev ix_X11_road : Nat := 60
abbrev ix_X11_rule : Nat := 61
abbrev ix_X11_says : Nat := 62
abbrev ix_X11_seat : Nat := 63
abbrev ix_X11_seats : Nat := 64
abbrev ix_X11_seatsRow : Nat := 65
abbrev ix_X11_setApart : Nat := 66
abbrev ix_X11_settling : Nat := 67
abbrev ix_X11_sheet : Nat := 68
abbrev ix_X11_side : Nat := 69
abbrev ix_X11_sumOver : Nat := 70
abbrev ix_X11_taken : Nat := 71
abbrev ix_X11_text : Nat := 72
abbrev ix_X11_turn : Nat := 73
abbrev ix_X11_worth : Nat := 74
abbrev ix_X12_act : Nat := 75
abbrev ix_X12_actTold : Nat := 76
abbrev ix_X12_acts : Nat := 77
abbrev ix_X12_against : Nat := 78
abbrev ix_X12_ahead : Nat := 79
abbrev ix_X12_ask : Nat := 80
abbrev ix_X12_both : Nat := 81
abbrev ix_X12_bought : Nat := 82
abbrev ix_X12_bound : Nat := 83
abbrev ix_X12_byRight : Nat := 84
abbrev ix_X12_canBuy : Nat := 85
abbrev ix_X12_cell : Nat := 86
abbrev ix_X12_changed : Nat := 87
abbrev ix_X12_clash : Nat := 88
abbrev ix_X12_clause : Nat := 89
abbrev ix_X12_copy : Nat := 90
abbrev ix_X12_council : Nat := 91
abbrev ix_X12_count : Nat := 92
abbrev ix_X12_crossed : Nat := 93
abbrev ix_X12_elector : Nat := 94
abbrev ix_X12_far : Nat := 95
abbrev ix_X12_feed : Nat := 96
abbrev ix_X12_felled : Nat := 97
abbrev ix_X12_findFar : Nat := 98
abbrev ix_X12_firmOf : Nat := 99
abbrev ix_X12_goTogether : Nat := 100
abbrev ix_X12_goodBy : Nat := 101
abbrev ix_X12_goodOf : Nat := 102
abbrev ix_X12_hang : Nat := 103
abbrev ix_X12_hold : Nat := 104
abbrev ix_X12_in : Nat := 105
abbrev ix_X12_inForce : Nat := 106
abbrev ix_X12_init : Nat := 107
abbrev ix_X12_isAct : Nat := 108
abbrev ix_X12_isBetter : Nat := 109
abbrev ix_X12_isClause : Nat := 110
abbrev ix_X12_isDay : Nat := 111
abbrev ix_X12_isDigit : Nat := 112
abbrev ix_X12_isKey : Nat := 113
abbrev ix_X12_isLand : Nat := 114
abbrev ix_X12_isLetter : Nat := 115
abbrev ix_X12_isOffice : Nat := 116
abbrev ix_X12_isOn : Nat := 117
abbrev ix_X12_isPerson : Nat := 118
abbrev ix_X12_isSheet : Nat := 119
abbrev ix_X12_isSide : Nat := 120
abbrev ix_X12_isSign : Nat := 121
abbrev ix_X12_isText : Nat := 122
abbrev ix_X12_isTurn : Nat := 123
abbrev ix_X12_isUnder : Nat := 124
abbrev ix_X12_isWord : Nat := 125
abbrev ix_X12_journey : Nat := 126
abbrev ix_X12_knew : Nat := 127
abbrev ix_X12_known : Nat := 128
abbrev ix_X12_knownIn : Nat := 129
abbrev ix_X12_lastsOf : Nat := 130
abbrev ix_X12_lift : Nat := 131
abbrev ix_X12_namingOf : Nat := 132
abbrev ix_X12_next : Nat := 133
abbrev ix_X12_nextOrder : Nat := 134
abbrev ix_X12_note : Nat := 135
abbrev ix_X12_office : Nat := 136
abbrev ix_X12_officeTold : Nat := 137
abbrev ix_X12_ones : Nat := 138
abbrev ix_X12_owed : Nat := 139
abbrev ix_X12_part : Nat := 140
abbrev ix_X12_pay : Nat := 141
abbrev ix_X12_person : Nat := 142
abbrev ix_X12_priceOf : Nat := 143
abbrev ix_X12_put : Nat := 144
abbrev ix_X12_quarrels : Nat := 145
abbrev ix_X12_rank : Nat := 146
abbrev ix_X12_rankOf : Nat := 147
abbrev ix_X12_rightOf : Nat := 148
abbrev ix_X12_road : Nat := 149
abbrev ix_X12_rule : Nat := 150
abbrev ix_X12_ruleZero : Nat := 151
abbrev ix_X12_savedBy : Nat := 152
abbrev ix_X12_says : Nat := 153
abbrev ix_X12_seat : Nat := 154
abbrev ix_X12_seats : Nat := 155
abbrev ix_X12_seatsOf : Nat := 156
abbrev ix_X12_seatsRow : Nat := 157
abbrev ix_X12_settle : Nat := 158
abbrev ix_X12_settling : Nat := 159
abbrev ix_X12_sheet : Nat := 160
abbrev ix_X12_side : Nat := 161
abbrev ix_X12_sideOf : Nat := 162
abbrev ix_X12_signOf : Nat := 163
abbrev ix_X12_soundBy : Nat := 164
abbrev ix_X12_taken : Nat := 165
abbrev ix_X12_takersOf : Nat := 166
abbrev ix_X12_text : Nat := 167
abbrev ix_X12_turn : Nat := 168
abbrev ix_X12_undoneBy : Nat := 169
abbrev ix_X12_wonBy : Nat := 170
abbrev ix_X12_wordToken : Nat := 171
abbrev ix_X12_work : Nat := 172
abbrev ix_X12_worth : Nat := 173
abbrev ix_X1_addText : Nat := 174
abbrev ix_X1_changedBy : Nat := 175
abbrev ix_X1_firmAmong : Nat := 176
abbrev ix_X1_forceOn : Nat := 177
abbrev ix_X1_goodAmong : Nat := 178
abbrev ix_X1_goodUnder : Nat := 179
abbrev ix_X1_hangingWithin : Nat := 180
abbrev ix_X1_init : Nat := 181
abbrev ix_X1_knewOf : Nat := 182
abbrev ix_X1_knownFrom : Nat := 183
abbrev ix_X1_landOf : Nat := 184
abbrev ix_X1_namingOn : Nat := 185
abbrev ix_X1_rightful : Nat := 186
abbrev ix_X1_tellsApart : Nat := 187
abbrev ix_X1_trueUnder : Nat := 188
abbrev ix_X1_valueIfHeld : Nat := 189
abbrev ix_X1_valueOf : Nat := 190
abbrev ix_X2_add : Nat := 191
abbrev ix_X2_init : Nat := 192
abbrev ix_X2_lastsFor : Nat := 193
abbrev ix_X2_rankOf : Nat := 194
abbrev ix_X2_runsOn : Nat := 195
abbrev ix_X2_tell : Nat := 196
abbrev ix_X3_add : Nat := 197
abbrev ix_X3_cheapest : Nat := 198
abbrev ix_X3_init : Nat := 199
abbrev ix_X4_giveUp : Nat := 200
abbrev ix_X4_goOn : Nat := 201
abbrev ix_X4_init : Nat := 202
abbrev ix_X4_keep : Nat := 203
abbrev ix_X4_mayBeWon : Nat := 204
abbrev ix_X4_plan : Nat := 205
abbrev ix_X5_init : Nat := 206
abbrev ix_X5_joined : Nat := 207
abbrev ix_X5_valueFor : Nat := 208
abbrev ix_X6_addTurn : Nat := 209
abbrev ix_X6_call : Nat := 210
abbrev ix_X6_holdingToOne : Nat := 211
abbrev ix_X6_init : Nat := 212
abbrev ix_X6_lay : Nat := 213
abbrev ix_X6_measure : Nat := 214
abbrev ix_X6_sideIfTurned : Nat := 215
abbrev ix_X6_sideOn : Nat := 216
abbrev ix_X6_turnOn : Nat := 217
abbrev ix_X6_within : Nat := 218
abbrev ix_X7_init : Nat := 219
abbrev ix_X8_advance : Nat := 220
abbrev ix_X8_append : Nat := 221
abbrev ix_X8_expect : Nat := 222
abbrev ix_X8_fail : Nat := 223
abbrev ix_X8_findNumber : Nat := 224
abbrev ix_X8_findToken : Nat := 225
abbrev ix_X8_findTokens : Nat := 226
abbrev ix_X8_findWord : Nat := 227
abbrev ix_X8_init : Nat := 228
abbrev ix_X8_isDigit : Nat := 229
abbrev ix_X8_isLetter : Nat := 230
abbrev ix_X8_isSign : Nat := 231
abbrev ix_X8_keyFrom : Nat := 232
abbrev ix_X8_mayOpen : Nat := 233
abbrev ix_X8_nameFrom : Nat := 234
abbrev ix_X8_readBoth : Nat := 235
abbrev ix_X8_readEither : Nat := 236
abbrev ix_X8_readNot : Nat := 237
abbrev ix_X8_readOne : Nat := 238
abbrev ix_X8_readPart : Nat := 239
abbrev ix_X8_readSum : Nat := 240
abbrev ix_X8_readTape : Nat := 241
abbrev ix_X8_readTerm : Nat := 242
abbrev ix_X8_skipBlanks : Nat := 243
abbrev ix_X8_spells : Nat := 244
abbrev ix_X8_write : Nat := 245
abbrev ix_X9_add : Nat := 246
abbrev ix_X9_init : Nat := 247
abbrev ix_X9_owedAgain : Nat := 248
def am_P (k : Nat) : Option (am_M × Nat) := match k with
  | 0 => some (mc_objinit, 1)
  | 1 => some (mc_J6_bitCount_0f7a4, 1)
  | 2 => some (mc_J7_copyOf_59c91, 3)
  | 3 => some (mc_J7_fill_53178, 4)
  | 4 => some (mc_J9_min, 2)
  | 5 => some (mc_L_law, 4)
  | 6 => some (mc_X0_add, 2)
  | 7 => some (mc_X0_init, 1)
  | 8 => some (mc_X0_isBetter, 6)
  | 9 => some (mc_X0_settled, 6)
  | 10 => some (mc_X0_takersOf, 4)
  | 11 => some (mc_X0_undoneBy, 5)
  | 12 => some (mc_X10_become, 3)
  | 13 => some (mc_X10_holds, 3)
  | 14 => some (mc_X10_init, 1)
  | 15 => some (mc_X10_isMissing, 1)
  | 16 => some (mc_X10_put, 3)
  | 17 => some (mc_X11_act, 6)
  | 18 => some (mc_X11_actTold, 3)
  | 19 => some (mc_X11_acts, 7)
  | 20 => some (mc_X11_against, 3)
  | 21 => some (mc_X11_bought, 3)
  | 22 => some (mc_X11_bound, 4)
  | 23 => some (mc_X11_byRight, 4)
  | 24 => some (mc_X11_cell, 5)
  | 25 => some (mc_X11_changed, 4)
  | 26 => some (mc_X11_clash, 3)
  | 27 => some (mc_X11_clause, 2)
  | 28 => some (mc_X11_copy, 8)
  | 29 => some (mc_X11_council, 5)
  | 30 => some (mc_X11_count, 2)
  | 31 => some (mc_X11_crossed, 3)
  | 32 => some (mc_X11_elector, 3)
  | 33 => some (mc_X11_far, 3)
  | 34 => some (mc_X11_feed, 4)
  | 35 => some (mc_X11_felled, 5)
  | 36 => some (mc_X11_goTogether, 3)
  | 37 => some (mc_X11_hang, 3)
  | 38 => some (mc_X11_has, 2)
  | 39 => some (mc_X11_inForce, 3)
  | 40 => some (mc_X11_init, 2)
  | 41 => some (mc_X11_isAct, 2)
  | 42 => some (mc_X11_isClause, 2)
  | 43 => some (mc_X11_isDay, 1)
  | 44 => some (mc_X11_isLand, 1)
  | 45 => some (mc_X11_isOffice, 1)
  | 46 => some (mc_X11_isPerson, 2)
  | 47 => some (mc_X11_isSheet, 1)
  | 48 => some (mc_X11_isSide, 1)
  | 49 => some (mc_X11_isUnder, 4)
  | 50 => some (mc_X11_isWithin, 3)
  | 51 => some (mc_X11_journey, 4)
  | 52 => some (mc_X11_known, 3)
  | 53 => some (mc_X11_lift, 3)
  | 54 => some (mc_X11_office, 4)
  | 55 => some (mc_X11_officeTold, 3)
  | 56 => some (mc_X11_owed, 3)
  | 57 => some (mc_X11_pay, 5)
  | 58 => some (mc_X11_person, 2)
  | 59 => some (mc_X11_quarrels, 7)
  | 60 => some (mc_X11_road, 5)
  | 61 => some (mc_X11_rule, 4)
  | 62 => some (mc_X11_says, 4)
  | 63 => some (mc_X11_seat, 4)
  | 64 => some (mc_X11_seats, 4)
  | 65 => some (mc_X11_seatsRow, 9)
  | 66 => some (mc_X11_setApart, 3)
  | 67 => some (mc_X11_settling, 5)
  | 68 => some (mc_X11_sheet, 4)
  | 69 => some (mc_X11_side, 3)
  | 70 => some (mc_X11_sumOver, 4)
  | 71 => some (mc_X11_taken, 4)
  | 72 => some (mc_X11_text, 2)
  | 73 => some (mc_X11_turn, 4)
  | 74 => some (mc_X11_worth, 5)
  | 75 => some (mc_X12_act, 6)
  | 76 => some (mc_X12_actTold, 3)
  | 77 => some (mc_X12_acts, 7)
  | 78 => some (mc_X12_against, 4)
  | 79 => some (mc_X12_ahead, 2)
  | 80 => some (mc_X12_ask, 4)
  | 81 => some (mc_X12_both, 4)
  | 82 => some (mc_X12_bought, 4)
  | 83 => some (mc_X12_bound, 4)
  | 84 => some (mc_X12_byRight, 4)
  | 85 => some (mc_X12_canBuy, 4)
  | 86 => some (mc_X12_cell, 4)
  | 87 => some (mc_X12_changed, 9)
  | 88 => some (mc_X12_clash, 4)
  | 89 => some (mc_X12_clause, 2)
  | 90 => some (mc_X12_copy, 7)
  | 91 => some (mc_X12_council, 8)
  | 92 => some (mc_X12_count, 2)
  | 93 => some (mc_X12_crossed, 3)
  | 94 => some (mc_X12_elector, 3)
  | 95 => some (mc_X12_far, 3)
  | 96 => some (mc_X12_feed, 5)
  | 97 => some (mc_X12_felled, 5)
  | 98 => some (mc_X12_findFar, 5)
  | 99 => some (mc_X12_firmOf, 6)
  | 100 => some (mc_X12_goTogether, 4)
  | 101 => some (mc_X12_goodBy, 2)
  | 102 => some (mc_X12_goodOf, 6)
  | 103 => some (mc_X12_hang, 3)
  | 104 => some (mc_X12_hold, 2)
  | 105 => some (mc_X12_in, 4)
  | 106 => some (mc_X12_inForce, 6)
  | 107 => some (mc_X12_init, 2)
  | 108 => some (mc_X12_isAct, 2)
  | 109 => some (mc_X12_isBetter, 4)
  | 110 => some (mc_X12_isClause, 2)
  | 111 => some (mc_X12_isDay, 2)
  | 112 => some (mc_X12_isDigit, 2)
  | 113 => some (mc_X12_isKey, 2)
  | 114 => some (mc_X12_isLand, 2)
  | 115 => some (mc_X12_isLetter, 2)
  | 116 => some (mc_X12_isOffice, 2)
  | 117 => some (mc_X12_isOn, 3)
  | 118 => some (mc_X12_isPerson, 2)
  | 119 => some (mc_X12_isSheet, 2)
  | 120 => some (mc_X12_isSide, 2)
  | 121 => some (mc_X12_isSign, 2)
  | 122 => some (mc_X12_isText, 2)
  | 123 => some (mc_X12_isTurn, 4)
  | 124 => some (mc_X12_isUnder, 3)
  | 125 => some (mc_X12_isWord, 6)
  | 126 => some (mc_X12_journey, 8)
  | 127 => some (mc_X12_knew, 4)
  | 128 => some (mc_X12_known, 3)
  | 129 => some (mc_X12_knownIn, 4)
  | 130 => some (mc_X12_lastsOf, 2)
  | 131 => some (mc_X12_lift, 3)
  | 132 => some (mc_X12_namingOf, 6)
  | 133 => some (mc_X12_next, 2)
  | 134 => some (mc_X12_nextOrder, 6)
  | 135 => some (mc_X12_note, 4)
  | 136 => some (mc_X12_office, 4)
  | 137 => some (mc_X12_officeTold, 3)
  | 138 => some (mc_X12_ones, 4)
  | 139 => some (mc_X12_owed, 8)
  | 140 => some (mc_X12_part, 4)
  | 141 => some (mc_X12_pay, 5)
  | 142 => some (mc_X12_person, 2)
  | 143 => some (mc_X12_priceOf, 4)
  | 144 => some (mc_X12_put, 2)
  | 145 => some (mc_X12_quarrels, 6)
  | 146 => some (mc_X12_rank, 2)
  | 147 => some (mc_X12_rankOf, 2)
  | 148 => some (mc_X12_rightOf, 5)
  | 149 => some (mc_X12_road, 5)
  | 150 => some (mc_X12_rule, 4)
  | 151 => some (mc_X12_ruleZero, 1)
  | 152 => some (mc_X12_savedBy, 4)
  | 153 => some (mc_X12_says, 4)
  | 154 => some (mc_X12_seat, 4)
  | 155 => some (mc_X12_seats, 4)
  | 156 => some (mc_X12_seatsOf, 6)
  | 157 => some (mc_X12_seatsRow, 7)
  | 158 => some (mc_X12_settle, 2)
  | 159 => some (mc_X12_settling, 6)
  | 160 => some (mc_X12_sheet, 5)
  | 161 => some (mc_X12_side, 3)
  | 162 => some (mc_X12_sideOf, 5)
  | 163 => some (mc_X12_signOf, 1)
  | 164 => some (mc_X12_soundBy, 4)
  | 165 => some (mc_X12_taken, 3)
  | 166 => some (mc_X12_takersOf, 6)
  | 167 => some (mc_X12_text, 3)
  | 168 => some (mc_X12_turn, 4)
  | 169 => some (mc_X12_undoneBy, 5)
  | 170 => some (mc_X12_wonBy, 7)
  | 171 => some (mc_X12_wordToken, 1)
  | 172 => some (mc_X12_work, 7)
  | 173 => some (mc_X12_worth, 5)
  | 174 => some (mc_X1_addText, 3)
  | 175 => some (mc_X1_changedBy, 8)
  | 176 => some (mc_X1_firmAmong, 6)
  | 177 => some (mc_X1_forceOn, 6)
  | 178 => some (mc_X1_goodAmong, 6)
  | 179 => some (mc_X1_goodUnder, 2)
  | 180 => some (mc_X1_hangingWithin, 4)
  | 181 => some (mc_X1_init, 4)
  | 182 => some (mc_X1_knewOf, 4)
  | 183 => some (mc_X1_knownFrom, 4)
  | 184 => some (mc_X1_landOf, 2)
  | 185 => some (mc_X1_namingOn, 8)
  | 186 => some (mc_X1_rightful, 5)
  | 187 => some (mc_X1_tellsApart, 7)
  | 188 => some (mc_X1_trueUnder, 5)
  | 189 => some (mc_X1_valueIfHeld, 6)
  | 190 => some (mc_X1_valueOf, 5)
  | 191 => some (mc_X2_add, 6)
  | 192 => some (mc_X2_init, 1)
  | 193 => some (mc_X2_lastsFor, 2)
  | 194 => some (mc_X2_rankOf, 2)
  | 195 => some (mc_X2_runsOn, 3)
  | 196 => some (mc_X2_tell, 3)
  | 197 => some (mc_X3_add, 3)
  | 198 => some (mc_X3_cheapest, 9)
  | 199 => some (mc_X3_init, 1)
  | 200 => some (mc_X4_giveUp, 6)
  | 201 => some (mc_X4_goOn, 9)
  | 202 => some (mc_X4_init, 2)
  | 203 => some (mc_X4_keep, 2)
  | 204 => some (mc_X4_mayBeWon, 7)
  | 205 => some (mc_X4_plan, 3)
  | 206 => some (mc_X5_init, 2)
  | 207 => some (mc_X5_joined, 3)
  | 208 => some (mc_X5_valueFor, 7)
  | 209 => some (mc_X6_addTurn, 4)
  | 210 => some (mc_X6_call, 12)
  | 211 => some (mc_X6_holdingToOne, 4)
  | 212 => some (mc_X6_init, 2)
  | 213 => some (mc_X6_lay, 4)
  | 214 => some (mc_X6_measure, 4)
  | 215 => some (mc_X6_sideIfTurned, 6)
  | 216 => some (mc_X6_sideOn, 4)
  | 217 => some (mc_X6_turnOn, 6)
  | 218 => some (mc_X6_within, 6)
  | 219 => some (mc_X7_init, 1)
  | 220 => some (mc_X8_advance, 1)
  | 221 => some (mc_X8_append, 5)
  | 222 => some (mc_X8_expect, 2)
  | 223 => some (mc_X8_fail, 1)
  | 224 => some (mc_X8_findNumber, 3)
  | 225 => some (mc_X8_findToken, 3)
  | 226 => some (mc_X8_findTokens, 2)
  | 227 => some (mc_X8_findWord, 2)
  | 228 => some (mc_X8_init, 1)
  | 229 => some (mc_X8_isDigit, 1)
  | 230 => some (mc_X8_isLetter, 1)
  | 231 => some (mc_X8_isSign, 1)
  | 232 => some (mc_X8_keyFrom, 2)
  | 233 => some (mc_X8_mayOpen, 2)
  | 234 => some (mc_X8_nameFrom, 2)
  | 235 => some (mc_X8_readBoth, 3)
  | 236 => some (mc_X8_readEither, 3)
  | 237 => some (mc_X8_readNot, 3)
  | 238 => some (mc_X8_readOne, 2)
  | 239 => some (mc_X8_readPart, 2)
  | 240 => some (mc_X8_readSum, 4)
  | 241 => some (mc_X8_readTape, 1)
  | 242 => some (mc_X8_readTerm, 3)
  | 243 => some (mc_X8_skipBlanks, 1)
  | 244 => some (mc_X8_spells, 4)
  | 245 => some (mc_X8_write, 2)
  | 246 => some (mc_X9_add, 5)
  | 247 => some (mc_X9_init, 1)
  | 248 => some (mc_X9_owedAgain, 9)
  | _ => none
