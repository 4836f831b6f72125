/-! the code of the methods, block by block -/
def mk_0 : List (List mI) := [
  [(.aload 0, 0, 0, 0), (.monitorexit, 0, 0, 0), (.aload 0, 0, 0, 0), (.sipush 7, 0, 0, 0), (.newarray .int, 20, 0, 0), (.putfield 2, 0, 0, 0), (.aload 0, 0, 0, 0), (.sipush 7, 0, 0, 0), (.newarray .int, 20, 0, 0), (.putfield 2, 0, 1, 0), (.aload 0, 0, 0, 0), (.sipush 7, 0, 0, 0), (.newarray .int, 20, 0, 0), (.putfield 2, 0, 2, 0), (.aload 0, 0, 0, 0), (.new 5, 0, 0, 0), (.dup, 0, 0, 0), (.invokespecial 63, 1, 5, 0), (.putfield 2, 0, 3, 0), (.aload 0, 0, 0, 0), (.sipush 0, 0, 0, 0), (.putfield 0, 0, 4, 0), (.aload 0, 0, 0, 0), (.sipush 0, 0, 0, 0), (.putfield 0, 0, 5, 0), (.aload 0, 0, 0, 0), (.sipush 0, 0, 0, 0), (.putfield 0, 0, 6, 0), (.aload 0, 0, 0, 0), (.sipush 0, 0, 0, 0), (.putfield 0, 0, 7, 0), (.aload 0, 0, 0, 0), (.sipush 15, 0, 0, 0), (.putfield 0, 0, 8, 0), (.aload 0, 0, 0, 0), (.sipush 0, 0, 0, 0), (.putfield 0, 0, 9, 0), (.aload 0, 0, 0, 0), (.invokevirtual 2, 1, 0, 0), (.return_, 0, 0, 0)]]
def mk_1 : List (List mI) := [
  [(.aload 0, 0, 0, 0), (.getfield 2, 0, 2, 0), (.sipush 0, 0, 0, 0), (.invokestatic 280, 2, 0, 0), (.aload 0, 0, 0, 0), (.getfield 2, 0, 3, 0), (.invokevirtual 64, 1, 5, 0), (.aload 0, 0, 0, 0), (.sipush 0, 0, 0, 0), (.putfield 0, 0, 4, 0), (.aload 0, 0, 0, 0), (.sipush 0, 0, 0, 0), (.putfield 0, 0, 5, 0), (.aload 0, 0, 0, 0), (.sipush 0, 0, 0, 0), (.putfield 0, 0, 6, 0), (.aload 0, 0, 0, 0), (.sipush 0, 0, 0, 0), (.putfield 0, 0, 7, 0), (.aload 0, 0, 0, 0), (.sipush 15, 0, 0, 0), (.putfield 0, 0, 8, 0), (.aload 0, 0, 0, 0), (.sipush 0, 0, 0, 0), (.putfield 0, 0, 9, 0), (.return_, 0, 0, 0)]]
def mk_2 : List (List mI) := [
  [(.aload 0, 0, 0, 0), (.getfield 2, 0, 3, 0), (.sipush 0, 0, 0, 0), (.sipush 1, 0, 0, 0), (.invokevirtual 69, 3, 5, 0), (.aload 0, 0, 0, 0), (.getfield 2, 0, 3, 0), (.sipush 1, 0, 0, 0), (.sipush 2, 0, 0, 0), (.invokevirtual 69, 3, 5, 0), (.aload 0, 0, 0, 0), (.getfield 2, 0, 3, 0), (.sipush 2, 0, 0, 0), (.sipush 6, 0, 0, 0), (.invokevirtual 69, 3, 5, 0), (.return_, 0, 0, 0)]]
def mk_3 : List (List mI) := [
  [(.iload 1, 0, 0, 0), (.ifCond .lt 0, 1, 0, 0), (.iload 1, 0, 0, 0), (.aload 0, 0, 0, 0), (.getfield 0, 0, 4, 0), (.if_icmp .ge 0, 1, 0, 0), (.sipush 1, 0, 0, 0), (.goto 0, 2, 0, 0)],
  [(.sipush 0, 0, 0, 0)],
  [(.ireturn, 1, 0, 0)]]
def mk_4 : List (List mI) := [
  [(.sipush 0, 0, 0, 0), (.istore 2, 0, 0, 0)],
  [(.iload 2, 0, 0, 0), (.aload 0, 0, 0, 0), (.getfield 0, 0, 4, 0), (.if_icmp .ge 0, 3, 0, 0), (.aload 0, 0, 0, 0), (.getfield 2, 0, 0, 0), (.iload 2, 0, 0, 0), (.iaload, 0, 0, 0), (.iload 1, 0, 0, 0), (.if_icmp .ne 0, 2, 0, 0), (.iload 2, 0, 0, 0), (.ireturn, 0, 0, 0)],
  [(.iinc 2 1, 0, 0, 0), (.goto 0, 1, 0, 0)],
  [(.sipush (-1), 0, 0, 0), (.ireturn, 0, 0, 0)]]
def mk_5 : List (List mI) := [
  [(.aload 0, 0, 0, 0), (.getfield 0, 0, 4, 0), (.sipush 7, 0, 0, 0), (.if_icmp .ge 0, 1, 0, 0), (.aload 0, 0, 0, 0), (.getfield 2, 0, 0, 0), (.aload 0, 0, 0, 0), (.getfield 0, 0, 4, 0), (.iload 1, 0, 0, 0), (.iastore, 0, 0, 0), (.aload 0, 0, 0, 0), (.getfield 2, 0, 1, 0), (.aload 0, 0, 0, 0), (.getfield 0, 0, 4, 0), (.iload 2, 0, 0, 0), (.iastore, 0, 0, 0), (.aload 0, 0, 0, 0), (.dup, 0, 0, 0), (.getfield 0, 0, 4, 0), (.sipush 1, 0, 0, 0), (.iadd, 0, 0, 0), (.putfield 0, 0, 4, 0)],
  [(.return_, 0, 0, 0)]]
def mk_6 : List (List mI) := [
  [(.aload 0, 0, 0, 0), (.iload 1, 0, 0, 0), (.invokevirtual 3, 2, 0, 0), (.ifCond .eq 0, 1, 0, 0), (.aload 0, 0, 0, 0), (.iload 2, 0, 0, 0), (.invokevirtual 3, 2, 0, 0), (.ifCond .eq 0, 1, 0, 0), (.aload 0, 0, 0, 0), (.getfield 2, 0, 2, 0), (.iload 1, 0, 0, 0), (.dup2, 0, 0, 0), (.iaload, 0, 0, 0), (.sipush 1, 0, 0, 0), (.iload 2, 0, 0, 0), (.ishl, 0, 0, 0), (.ior, 0, 0, 0), (.iastore, 0, 0, 0), (.aload 0, 0, 0, 0), (.getfield 2, 0, 2, 0), (.iload 2, 0, 0, 0), (.dup2, 0, 0, 0), (.iaload, 0, 0, 0), (.sipush 1, 0, 0, 0), (.iload 1, 0, 0, 0), (.ishl, 0, 0, 0), (.ior, 0, 0, 0), (.iastore, 0, 0, 0), (.aload 0, 0, 0, 0), (.dup, 0, 0, 0), (.getfield 0, 0, 5, 0), (.sipush 1, 0, 0, 0), (.iadd, 0, 0, 0), (.putfield 0, 0, 5, 0)],
  [(.return_, 0, 0, 0)]]
def mk_7 : List (List mI) := [
  [(.aload 1, 0, 0, 0), (.getfield 2, 0, 0, 0), (.sipush 0, 0, 0, 0), (.aload 0, 0, 0, 0), (.getfield 2, 0, 0, 0), (.sipush 0, 0, 0, 0), (.sipush 7, 0, 0, 0), (.invokedynamic 0, 0, 0, 0), (.aload 1, 0, 0, 0), (.getfield 2, 0, 1, 0), (.sipush 0, 0, 0, 0), (.aload 0, 0, 0, 0), (.getfield 2, 0, 1, 0), (.sipush 0, 0, 0, 0), (.sipush 7, 0, 0, 0), (.invokedynamic 0, 0, 0, 0), (.aload 1, 0, 0, 0), (.getfield 2, 0, 2, 0), (.sipush 0, 0, 0, 0), (.aload 0, 0, 0, 0), (.getfield 2, 0, 2, 0), (.sipush 0, 0, 0, 0), (.sipush 7, 0, 0, 0), (.invokedynamic 0, 0, 0, 0), (.aload 0, 0, 0, 0), (.getfield 2, 0, 3, 0), (.aload 1, 0, 0, 0), (.getfield 2, 0, 3, 0), (.invokevirtual 70, 2, 5, 0), (.aload 0, 0, 0, 0), (.aload 1, 0, 0, 0), (.getfield 0, 0, 4, 0), (.putfield 0, 0, 4, 0), (.aload 0, 0, 0, 0), (.aload 1, 0, 0, 0), (.getfield 0, 0, 5, 0), (.putfield 0, 0, 5, 0), (.aload 0, 0, 0, 0), (.aload 1, 0, 0, 0), (.getfield 0, 0, 6, 0), (.putfield 0, 0, 6, 0), (.aload 0, 0, 0, 0), (.aload 1, 0, 0, 0), (.getfield 0, 0, 7, 0), (.putfield 0, 0, 7, 0), (.aload 0, 0, 0, 0), (.aload 1, 0, 0, 0), (.getfield 0, 0, 8, 0), (.putfield 0, 0, 8, 0), (.aload 0, 0, 0, 0), (.aload 1, 0, 0, 0), (.getfield 0, 0, 9, 0), (.putfield 0, 0, 9, 0), (.return_, 0, 0, 0)]]
def mk_8 : List (List mI) := [
  [(.aload 0, 0, 0, 0), (.monitorexit, 0, 0, 0), (.aload 0, 0, 0, 0), (.sipush 20, 0, 0, 0), (.anewarray 24, 0, 0, 0), (.putfield 2, 1, 0, 0), (.aload 0, 0, 0, 0), (.sipush 20, 0, 0, 0), (.anewarray 25, 0, 0, 0), (.putfield 2, 1, 1, 0), (.aload 0, 0, 0, 0), (.sipush 0, 0, 0, 0), (.putfield 0, 1, 2, 0), (.aload 0, 0, 0, 0), (.sipush 0, 0, 0, 0), (.putfield 0, 1, 3, 0), (.sipush 0, 0, 0, 0), (.istore 1, 0, 0, 0)],
  [(.iload 1, 0, 0, 0), (.sipush 20, 0, 0, 0), (.if_icmp .ge 0, 2, 0, 0), (.aload 0, 0, 0, 0), (.getfield 2, 1, 0, 0), (.iload 1, 0, 0, 0), (.new 7, 0, 0, 0), (.dup, 0, 0, 0), (.invokespecial 76, 1, 7, 0), (.aastore, 0, 0, 0), (.aload 0, 0, 0, 0), (.getfield 2, 1, 1, 0), (.iload 1, 0, 0, 0), (.new 2, 0, 0, 0), (.dup, 0, 0, 0), (.invokespecial 11, 1, 2, 0), (.aastore, 0, 0, 0), (.iinc 1 1, 0, 0, 0), (.goto 0, 1, 0, 0)],
  [(.return_, 0, 0, 0)]]
def mk_9 : List (List mI) := [
  [(.aload 0, 0, 0, 0), (.getfield 2, 1, 0, 0), (.aload 0, 0, 0, 0), (.getfield 0, 1, 2, 0), (.aaload, 0, 0, 0), (.aload 1, 0, 0, 0), (.invokevirtual 78, 2, 7, 0), (.aload 0, 0, 0, 0), (.getfield 2, 1, 1, 0), (.aload 0, 0, 0, 0), (.getfield 0, 1, 2, 0), (.aaload, 0, 0, 0), (.aload 2, 0, 0, 0), (.invokevirtual 14, 2, 2, 0), (.aload 0, 0, 0, 0), (.aload 0, 0, 0, 0), (.getfield 0, 1, 2, 0), (.sipush 1, 0, 0, 0), (.iadd, 0, 0, 0), (.sipush 20, 0, 0, 0), (.irem, 0, 0, 0), (.putfield 0, 1, 2, 0), (.aload 0, 0, 0, 0), (.aload 0, 0, 0, 0), (.getfield 0, 1, 3, 0), (.sipush 1, 0, 0, 0), (.iadd, 0, 0, 0), (.sipush 20, 0, 0, 0), (.invokestatic 277, 2, 0, 0), (.putfield 0, 1, 3, 0), (.return_, 0, 0, 0)]]
def mk_10 : List (List mI) := [
  [(.aload 0, 0, 0, 0), (.getfield 0, 1, 3, 0), (.ifCond .ne 0, 1, 0, 0), (.sipush 0, 0, 0, 0), (.ireturn, 1, 0, 0)],
  [(.aload 0, 0, 0, 0), (.dup, 0, 0, 0), (.getfield 0, 1, 3, 0), (.sipush 1, 0, 0, 0), (.isub, 0, 0, 0), (.putfield 0, 1, 3, 0), (.aload 0, 0, 0, 0), (.aload 0, 0, 0, 0), (.getfield 0, 1, 2, 0), (.sipush 20, 0, 0, 0), (.iadd, 0, 0, 0), (.sipush 1, 0, 0, 0), (.isub, 0, 0, 0), (.sipush 20, 0, 0, 0), (.irem, 0, 0, 0), (.putfield 0, 1, 2, 0), (.aload 1, 0, 0, 0), (.aload 0, 0, 0, 0), (.getfield 2, 1, 0, 0), (.aload 0, 0, 0, 0), (.getfield 0, 1, 2, 0), (.aaload, 0, 0, 0), (.invokevirtual 78, 2, 7, 0), (.aload 2, 0, 0, 0), (.aload 0, 0, 0, 0), (.getfield 2, 1, 1, 0), (.aload 0, 0, 0, 0), (.getfield 0, 1, 2, 0), (.aaload, 0, 0, 0), (.invokevirtual 14, 2, 2, 0), (.sipush 1, 0, 0, 0), (.ireturn, 1, 0, 0)]]
def mk_11 : List (List mI) := [
  [(.aload 0, 0, 0, 0), (.monitorexit, 0, 0, 0), (.aload 0, 0, 0, 0), (.sipush 40, 0, 0, 0), (.newarray .int, 20, 0, 0), (.putfield 2, 2, 0, 0), (.aload 0, 0, 0, 0), (.sipush 0, 0, 0, 0), (.putfield 0, 2, 1, 0), (.return_, 0, 0, 0)]]
def mk_12 : List (List mI) := [
  [(.aload 0, 0, 0, 0), (.getfield 0, 2, 1, 0), (.sipush 40, 0, 0, 0), (.if_icmp .ne 0, 1, 0, 0), (.aload 0, 0, 0, 0), (.getfield 2, 2, 0, 0), (.sipush 1, 0, 0, 0), (.aload 0, 0, 0, 0), (.getfield 2, 2, 0, 0), (.sipush 0, 0, 0, 0), (.sipush 39, 0, 0, 0), (.invokedynamic 0, 0, 0, 0), (.aload 0, 0, 0, 0), (.dup, 0, 0, 0), (.getfield 0, 2, 1, 0), (.sipush 1, 0, 0, 0), (.isub, 0, 0, 0), (.putfield 0, 2, 1, 0)],
  [(.aload 0, 0, 0, 0), (.getfield 2, 2, 0, 0), (.aload 0, 0, 0, 0), (.getfield 0, 2, 1, 0), (.iload 1, 0, 0, 0), (.sipush 8, 0, 0, 0), (.ishl, 0, 0, 0), (.iload 2, 0, 0, 0), (.sipush 5, 0, 0, 0), (.ishl, 0, 0, 0), (.ior, 0, 0, 0), (.iload 3, 0, 0, 0), (.ior, 0, 0, 0), (.iastore, 0, 0, 0), (.aload 0, 0, 0, 0), (.dup, 0, 0, 0), (.getfield 0, 2, 1, 0), (.sipush 1, 0, 0, 0), (.iadd, 0, 0, 0), (.putfield 0, 2, 1, 0), (.return_, 0, 0, 0)]]
def mk_13 : List (List mI) := [
  [(.iload 1, 0, 0, 0), (.ifCond .lt 0, 1, 0, 0), (.iload 1, 0, 0, 0), (.aload 0, 0, 0, 0), (.getfield 0, 2, 1, 0), (.if_icmp .lt 0, 2, 0, 0)],
  [(.sipush (-1), 0, 0, 0), (.ireturn, 0, 0, 0)],
  [(.iload 2, 0, 0, 0), (.tableswitch 6 0 2 #[3, 4, 5], 0, 0, 0)],
  [(.aload 0, 0, 0, 0), (.getfield 2, 2, 0, 0), (.iload 1, 0, 0, 0), (.iaload, 0, 0, 0), (.sipush 8, 0, 0, 0), (.ishr, 0, 0, 0), (.ireturn, 0, 0, 0)],
  [(.aload 0, 0, 0, 0), (.getfield 2, 2, 0, 0), (.iload 1, 0, 0, 0), (.iaload, 0, 0, 0), (.sipush 5, 0, 0, 0), (.ishr, 0, 0, 0), (.sipush 7, 0, 0, 0), (.iand, 0, 0, 0), (.ireturn, 0, 0, 0)],
  [(.aload 0, 0, 0, 0), (.getfield 2, 2, 0, 0), (.iload 1, 0, 0, 0), (.iaload, 0, 0, 0), (.sipush 31, 0, 0, 0), (.iand, 0, 0, 0), (.ireturn, 0, 0, 0)],
  [(.sipush (-1), 0, 0, 0), (.ireturn, 0, 0, 0)]]
def mk_14 : List (List mI) := [
  [(.aload 1, 0, 0, 0), (.getfield 2, 2, 0, 0), (.sipush 0, 0, 0, 0), (.aload 0, 0, 0, 0), (.getfield 2, 2, 0, 0), (.sipush 0, 0, 0, 0), (.sipush 40, 0, 0, 0), (.invokedynamic 0, 0, 0, 0), (.aload 0, 0, 0, 0), (.aload 1, 0, 0, 0), (.getfield 0, 2, 1, 0), (.putfield 0, 2, 1, 0), (.return_, 0, 0, 0)]]
def mk_15 : List (List mI) := [
  [(.aload 0, 0, 0, 0), (.monitorexit, 0, 0, 0), (.aload 0, 0, 0, 0), (.new 7, 0, 0, 0), (.dup, 0, 0, 0), (.invokespecial 76, 1, 7, 0), (.putfield 2, 3, 4, 0), (.aload 0, 0, 0, 0), (.sipush 128, 0, 0, 0), (.newarray .long, 21, 0, 0), (.putfield 2, 3, 5, 0), (.aload 0, 0, 0, 0), (.sipush 630, 0, 0, 0), (.newarray .int, 20, 0, 0), (.putfield 2, 3, 6, 0), (.aload 0, 0, 0, 0), (.sipush (-1), 0, 0, 0), (.putfield 0, 3, 7, 0), (.aload 0, 0, 0, 0), (.sipush (-1), 0, 0, 0), (.putfield 0, 3, 8, 0), (.aload 0, 0, 0, 0), (.aload 1, 0, 0, 0), (.putfield 2, 3, 0, 0), (.aload 0, 0, 0, 0), (.aload 2, 0, 0, 0), (.putfield 2, 3, 1, 0), (.aload 0, 0, 0, 0), (.aload 3, 0, 0, 0), (.putfield 2, 3, 2, 0), (.aload 0, 0, 0, 0), (.aload 4, 0, 0, 0), (.putfield 2, 3, 3, 0), (.return_, 0, 0, 0)]]
def mk_16 : List (List mI) := [
  [(.iload 1, 0, 0, 0), (.sipush 1, 0, 0, 0), (.if_icmp .lt 0, 1, 0, 0), (.iload 1, 0, 0, 0), (.iload 2, 0, 0, 0), (.if_icmp .gt 0, 1, 0, 0), (.aload 0, 0, 0, 0), (.getfield 2, 3, 2, 0), (.getfield 0, 7, 2, 0), (.iload 1, 0, 0, 0), (.iadd, 0, 0, 0), (.sipush 999, 0, 0, 0), (.if_icmp .gt 0, 1, 0, 0), (.sipush 1, 0, 0, 0), (.goto 0, 2, 0, 0)],
  [(.sipush 0, 0, 0, 0)],
  [(.ireturn, 1, 0, 0)]]
def mk_17 : List (List mI) := [
  [(.aload 0, 0, 0, 0), (.getfield 2, 3, 4, 0), (.aload 0, 0, 0, 0), (.getfield 2, 3, 2, 0), (.invokevirtual 78, 2, 7, 0), (.sipush 0, 0, 0, 0), (.istore 2, 0, 0, 0)],
  [(.iload 2, 0, 0, 0), (.iload 1, 0, 0, 0), (.if_icmp .ge 0, 2, 0, 0), (.aload 0, 0, 0, 0), (.getfield 2, 3, 1, 0), (.aload 0, 0, 0, 0), (.getfield 2, 3, 4, 0), (.invokevirtual 95, 2, 10, 0), (.aload 0, 0, 0, 0), (.getfield 2, 3, 1, 0), (.aload 0, 0, 0, 0), (.getfield 2, 3, 4, 0), (.invokevirtual 96, 2, 10, 0), (.pop, 0, 0, 0), (.iinc 2 1, 0, 0, 0), (.goto 0, 1, 0, 0)],
  [(.aload 0, 0, 0, 0), (.getfield 2, 3, 4, 0), (.areturn, 0, 0, 0)]]
def mk_18 : List (List mI) := [
  [(.sipush 60, 0, 0, 0), (.sipush 999, 0, 0, 0), (.aload 0, 0, 0, 0), (.getfield 2, 3, 2, 0), (.getfield 0, 7, 2, 0), (.isub, 0, 0, 0), (.invokestatic 277, 2, 0, 0), (.istore 2, 0, 0, 0), (.aload 0, 0, 0, 0), (.getfield 2, 3, 4, 0), (.aload 0, 0, 0, 0), (.getfield 2, 3, 2, 0), (.invokevirtual 78, 2, 7, 0), (.sipush 0, 0, 0, 0), (.istore 3, 0, 0, 0)],
  [(.iload 3, 0, 0, 0), (.iload 2, 0, 0, 0), (.if_icmp .gt 0, 3, 0, 0), (.aload 0, 0, 0, 0), (.getfield 2, 3, 4, 0), (.getfield 2, 7, 0, 0), (.iload 1, 0, 0, 0), (.iaload, 0, 0, 0), (.aload 0, 0, 0, 0), (.getfield 2, 3, 0, 0), (.getfield 0, 0, 8, 0), (.if_icmp .lt 0, 2, 0, 0), (.iload 3, 0, 0, 0), (.ireturn, 0, 0, 0)],
  [(.aload 0, 0, 0, 0), (.getfield 2, 3, 1, 0), (.aload 0, 0, 0, 0), (.getfield 2, 3, 4, 0), (.invokevirtual 95, 2, 10, 0), (.aload 0, 0, 0, 0), (.getfield 2, 3, 1, 0), (.aload 0, 0, 0, 0), (.getfield 2, 3, 4, 0), (.invokevirtual 96, 2, 10, 0), (.pop, 0, 0, 0), (.iinc 3 1, 0, 0, 0), (.goto 0, 1, 0, 0)],
  [(.sipush (-1), 0, 0, 0), (.ireturn, 0, 0, 0)]]
def mk_19 : List (List mI) := [
  [(.sipush 0, 0, 0, 0), (.istore 2, 0, 0, 0), (.aload 0, 0, 0, 0), (.getfield 2, 3, 4, 0), (.aload 0, 0, 0, 0), (.getfield 2, 3, 2, 0), (.invokevirtual 78, 2, 7, 0), (.sipush 0, 0, 0, 0), (.istore 3, 0, 0, 0)],
  [(.iload 3, 0, 0, 0), (.sipush 20, 0, 0, 0), (.if_icmp .gt 0, 3, 0, 0), (.aload 0, 0, 0, 0), (.getfield 2, 3, 4, 0), (.getfield 2, 7, 1, 0), (.iload 1, 0, 0, 0), (.iload 3, 0, 0, 0), (.iastore, 0, 0, 0), (.aload 0, 0, 0, 0), (.getfield 2, 3, 1, 0), (.aload 0, 0, 0, 0), (.getfield 2, 3, 4, 0), (.invokevirtual 95, 2, 10, 0), (.aload 0, 0, 0, 0), (.getfield 2, 3, 1, 0), (.getfield 2, 10, 7, 0), (.iload 1, 0, 0, 0), (.iaload, 0, 0, 0), (.iload 3, 0, 0, 0), (.if_icmp .ne 0, 2, 0, 0), (.iload 2, 0, 0, 0), (.sipush 1, 0, 0, 0), (.iload 3, 0, 0, 0), (.ishl, 0, 0, 0), (.ior, 0, 0, 0), (.istore 2, 0, 0, 0)],
  [(.iinc 3 1, 0, 0, 0), (.goto 0, 1, 0, 0)],
  [(.iload 2, 0, 0, 0), (.ireturn, 0, 0, 0)]]
def mk_20 : List (List mI) := [
  [(.aload 0, 0, 0, 0), (.iload 1, 0, 0, 0), (.invokevirtual 19, 2, 3, 0), (.istore 3, 0, 0, 0), (.aload 0, 0, 0, 0), (.sipush (-1), 0, 0, 0), (.putfield 0, 3, 7, 0), (.sipush 0, 0, 0, 0), (.istore 4, 0, 0, 0)],
  [(.iload 4, 0, 0, 0), (.sipush 20, 0, 0, 0), (.if_icmp .gt 0, 8, 0, 0), (.aload 0, 0, 0, 0), (.getfield 2, 3, 4, 0), (.aload 0, 0, 0, 0), (.getfield 2, 3, 2, 0), (.invokevirtual 78, 2, 7, 0), (.aload 0, 0, 0, 0), (.getfield 2, 3, 4, 0), (.getfield 2, 7, 1, 0), (.iload 1, 0, 0, 0), (.iload 4, 0, 0, 0), (.iastore, 0, 0, 0), (.sipush 0, 0, 0, 0), (.istore 5, 0, 0, 0), (.sipush 0, 0, 0, 0), (.istore 6, 0, 0, 0)],
  [(.iload 6, 0, 0, 0), (.iload 2, 0, 0, 0), (.if_icmp .ge 0, 3, 0, 0), (.aload 0, 0, 0, 0), (.getfield 2, 3, 1, 0), (.aload 0, 0, 0, 0), (.getfield 2, 3, 4, 0), (.invokevirtual 95, 2, 10, 0), (.iload 5, 0, 0, 0), (.aload 0, 0, 0, 0), (.getfield 2, 3, 1, 0), (.aload 0, 0, 0, 0), (.getfield 2, 3, 4, 0), (.invokevirtual 96, 2, 10, 0), (.iadd, 0, 0, 0), (.istore 5, 0, 0, 0), (.iinc 6 1, 0, 0, 0), (.goto 0, 2, 0, 0)],
  [(.aload 0, 0, 0, 0), (.getfield 0, 3, 7, 0), (.sipush (-1), 0, 0, 0), (.if_icmp .ne 0, 4, 0, 0), (.sipush 1, 0, 0, 0), (.goto 0, 5, 0, 0)],
  [(.sipush 0, 0, 0, 0)],
  [(.istore 6, 0, 0, 0), (.iload 6, 0, 0, 0), (.ifCond .ne 0, 6, 0, 0), (.iload 5, 0, 0, 0), (.aload 0, 0, 0, 0), (.getfield 0, 3, 8, 0), (.if_icmp .lt 0, 6, 0, 0), (.iload 5, 0, 0, 0), (.aload 0, 0, 0, 0), (.getfield 0, 3, 8, 0), (.if_icmp .ne 0, 7, 0, 0), (.iload 3, 0, 0, 0), (.iload 4, 0, 0, 0), (.aload 0, 0, 0, 0), (.getfield 0, 3, 7, 0), (.invokestatic 21, 3, 3, 0), (.ifCond .eq 0, 7, 0, 0)],
  [(.aload 0, 0, 0, 0), (.iload 4, 0, 0, 0), (.putfield 0, 3, 7, 0), (.aload 0, 0, 0, 0), (.iload 5, 0, 0, 0), (.putfield 0, 3, 8, 0)],
  [(.iinc 4 1, 0, 0, 0), (.goto 0, 1, 0, 0)],
  [(.return_, 0, 0, 0)]]
def mk_21 : List (List mI) := [
  [(.iload 0, 0, 0, 0), (.iload 1, 0, 0, 0), (.ishr, 0, 0, 0), (.sipush 1, 0, 0, 0), (.iand, 0, 0, 0), (.iload 0, 0, 0, 0), (.iload 2, 0, 0, 0), (.ishr, 0, 0, 0), (.sipush 1, 0, 0, 0), (.iand, 0, 0, 0), (.if_icmp .le 0, 1, 0, 0), (.sipush 1, 0, 0, 0), (.goto 0, 2, 0, 0)],
  [(.sipush 0, 0, 0, 0)],
  [(.ireturn, 1, 0, 0)]]
def mk_22 : List (List mI) := [
  [(.aload 0, 0, 0, 0), (.getfield 2, 3, 2, 0), (.getfield 0, 7, 3, 0), (.sipush 1, 0, 0, 0), (.iload 1, 0, 0, 0), (.ishl, 0, 0, 0), (.ior, 0, 0, 0), (.istore 3, 0, 0, 0), (.sipush 0, 0, 0, 0), (.istore 4, 0, 0, 0)],
  [(.iload 4, 0, 0, 0), (.sipush 3, 0, 0, 0), (.if_icmp .gt 0, 5, 0, 0), (.sipush 0, 0, 0, 0), (.istore 5, 0, 0, 0)],
  [(.iload 5, 0, 0, 0), (.sipush 1, 0, 0, 0), (.aload 0, 0, 0, 0), (.getfield 2, 3, 0, 0), (.getfield 0, 0, 4, 0), (.ishl, 0, 0, 0), (.if_icmp .ge 0, 4, 0, 0), (.iload 5, 0, 0, 0), (.invokestatic 273, 1, 0, 0), (.iload 4, 0, 0, 0), (.if_icmp .ne 0, 3, 0, 0), (.iload 5, 0, 0, 0), (.iload 3, 0, 0, 0), (.iand, 0, 0, 0), (.ifCond .ne 0, 3, 0, 0), (.aload 0, 0, 0, 0), (.iload 1, 0, 0, 0), (.iload 2, 0, 0, 0), (.iload 5, 0, 0, 0), (.invokevirtual 23, 4, 3, 0), (.ifCond .eq 0, 3, 0, 0), (.iload 5, 0, 0, 0), (.ireturn, 0, 0, 0)],
  [(.iinc 5 1, 0, 0, 0), (.goto 0, 2, 0, 0)],
  [(.iinc 4 1, 0, 0, 0), (.goto 0, 1, 0, 0)],
  [(.sipush (-1), 0, 0, 0), (.ireturn, 0, 0, 0)]]
def mk_23 : List (List mI) := [
  [(.aload 0, 0, 0, 0), (.getfield 2, 3, 4, 0), (.aload 0, 0, 0, 0), (.getfield 2, 3, 2, 0), (.invokevirtual 78, 2, 7, 0), (.aload 0, 0, 0, 0), (.getfield 2, 3, 4, 0), (.dup, 0, 0, 0), (.getfield 0, 7, 3, 0), (.iload 3, 0, 0, 0), (.ior, 0, 0, 0), (.putfield 0, 7, 3, 0), (.sipush 0, 0, 0, 0), (.istore 4, 0, 0, 0)],
  [(.iload 4, 0, 0, 0), (.iload 2, 0, 0, 0), (.if_icmp .ge 0, 3, 0, 0), (.aload 0, 0, 0, 0), (.getfield 2, 3, 1, 0), (.aload 0, 0, 0, 0), (.getfield 2, 3, 4, 0), (.invokevirtual 95, 2, 10, 0), (.aload 0, 0, 0, 0), (.getfield 2, 3, 1, 0), (.aload 0, 0, 0, 0), (.getfield 2, 3, 4, 0), (.invokevirtual 96, 2, 10, 0), (.pop, 0, 0, 0), (.aload 0, 0, 0, 0), (.getfield 2, 3, 4, 0), (.getfield 2, 7, 0, 0), (.iload 1, 0, 0, 0), (.iaload, 0, 0, 0), (.aload 0, 0, 0, 0), (.getfield 2, 3, 0, 0), (.getfield 0, 0, 8, 0), (.if_icmp .lt 0, 2, 0, 0), (.sipush 0, 0, 0, 0), (.ireturn, 1, 0, 0)],
  [(.iinc 4 1, 0, 0, 0), (.goto 0, 1, 0, 0)],
  [(.sipush 1, 0, 0, 0), (.ireturn, 1, 0, 0)]]
def mk_24 : List (List mI) := [
  [(.sipush 0, 0, 0, 0), (.istore 3, 0, 0, 0), (.aload 0, 0, 0, 0), (.getfield 2, 3, 4, 0), (.aload 0, 0, 0, 0), (.getfield 2, 3, 2, 0), (.invokevirtual 78, 2, 7, 0), (.sipush 0, 0, 0, 0), (.istore 4, 0, 0, 0)],
  [(.iload 4, 0, 0, 0), (.iload 2, 0, 0, 0), (.if_icmp .ge 0, 7, 0, 0), (.aload 0, 0, 0, 0), (.getfield 2, 3, 1, 0), (.aload 0, 0, 0, 0), (.getfield 2, 3, 4, 0), (.invokevirtual 95, 2, 10, 0), (.sipush 0, 0, 0, 0), (.istore 5, 0, 0, 0)],
  [(.iload 5, 0, 0, 0), (.aload 0, 0, 0, 0), (.getfield 2, 3, 0, 0), (.getfield 0, 0, 4, 0), (.if_icmp .ge 0, 6, 0, 0), (.iload 1, 0, 0, 0), (.ifCond .eq 0, 3, 0, 0), (.aload 0, 0, 0, 0), (.getfield 2, 3, 1, 0), (.getfield 2, 10, 5, 0), (.iload 5, 0, 0, 0), (.iaload, 0, 0, 0), (.goto 0, 4, 0, 0)],
  [(.aload 0, 0, 0, 0), (.getfield 2, 3, 1, 0), (.iload 5, 0, 0, 0), (.aload 0, 0, 0, 0), (.getfield 2, 3, 4, 0), (.invokevirtual 98, 3, 10, 0)],
  [(.istore 6, 0, 0, 0), (.iload 6, 0, 0, 0), (.aload 0, 0, 0, 0), (.getfield 2, 3, 1, 0), (.getfield 2, 10, 7, 0), (.iload 5, 0, 0, 0), (.iaload, 0, 0, 0), (.if_icmp .ne 0, 5, 0, 0), (.iinc 3 1, 0, 0, 0)],
  [(.iinc 5 1, 0, 0, 0), (.goto 0, 2, 0, 0)],
  [(.aload 0, 0, 0, 0), (.getfield 2, 3, 1, 0), (.aload 0, 0, 0, 0), (.getfield 2, 3, 4, 0), (.invokevirtual 96, 2, 10, 0), (.pop, 0, 0, 0), (.iinc 4 1, 0, 0, 0), (.goto 0, 1, 0, 0)],
  [(.iload 3, 0, 0, 0), (.ireturn, 0, 0, 0)]]
def mk_25 : List (List mI) := [
  [(.aload 0, 0, 0, 0), (.getfield 2, 3, 5, 0), (.jsr (-1), 0, 0, 0), (.invokestatic 279, 2, 0, 0), (.sipush 0, 0, 0, 0), (.istore 2, 0, 0, 0)],
  [(.iload 2, 0, 0, 0), (.aload 0, 0, 0, 0), (.getfield 2, 3, 0, 0), (.getfield 0, 0, 4, 0), (.if_icmp .gt 0, 5, 0, 0), (.sipush 0, 0, 0, 0), (.istore 3, 0, 0, 0)],
  [(.iload 3, 0, 0, 0), (.sipush 1, 0, 0, 0), (.aload 0, 0, 0, 0), (.getfield 2, 3, 0, 0), (.getfield 0, 0, 4, 0), (.ishl, 0, 0, 0), (.if_icmp .ge 0, 4, 0, 0), (.iload 3, 0, 0, 0), (.invokestatic 273, 1, 0, 0), (.iload 2, 0, 0, 0), (.if_icmp .ne 0, 3, 0, 0), (.aload 0, 0, 0, 0), (.iload 3, 0, 0, 0), (.iload 1, 0, 0, 0), (.invokevirtual 26, 3, 3, 0), (.ifCond .eq 0, 3, 0, 0), (.iload 3, 0, 0, 0), (.ireturn, 0, 0, 0)],
  [(.iinc 3 1, 0, 0, 0), (.goto 0, 2, 0, 0)],
  [(.iinc 2 1, 0, 0, 0), (.goto 0, 1, 0, 0)],
  [(.sipush (-1), 0, 0, 0), (.ireturn, 0, 0, 0)]]
def mk_26 : List (List mI) := [
  [(.aload 0, 0, 0, 0), (.iload 1, 0, 0, 0), (.iload 2, 0, 0, 0), (.invokevirtual 27, 3, 3, 0), (.sipush 0, 0, 0, 0), (.istore 3, 0, 0, 0)],
  [(.iload 3, 0, 0, 0), (.aload 0, 0, 0, 0), (.getfield 2, 3, 0, 0), (.getfield 0, 0, 4, 0), (.if_icmp .ge 0, 3, 0, 0), (.iload 1, 0, 0, 0), (.sipush 1, 0, 0, 0), (.iload 3, 0, 0, 0), (.ishl, 0, 0, 0), (.ixor, 0, 0, 0), (.istore 4, 0, 0, 0), (.aload 0, 0, 0, 0), (.iload 4, 0, 0, 0), (.iload 2, 0, 0, 0), (.invokevirtual 27, 3, 3, 0), (.aload 0, 0, 0, 0), (.getfield 2, 3, 5, 0), (.iload 1, 0, 0, 0), (.laload, 0, 0, 0), (.sipush 5, 0, 0, 0), (.iload 3, 0, 0, 0), (.imul, 0, 0, 0), (.lshr, 0, 0, 0), (.jsr 31, 0, 0, 0), (.land, 0, 0, 0), (.lstore 5, 0, 0, 0), (.aload 0, 0, 0, 0), (.getfield 2, 3, 5, 0), (.iload 4, 0, 0, 0), (.laload, 0, 0, 0), (.sipush 5, 0, 0, 0), (.iload 3, 0, 0, 0), (.imul, 0, 0, 0), (.lshr, 0, 0, 0), (.jsr 31, 0, 0, 0), (.land, 0, 0, 0), (.lstore 7, 0, 0, 0), (.lload 7, 0, 0, 0), (.lload 5, 0, 0, 0), (.lcmp, 0, 0, 0), (.ifCond .ge 0, 2, 0, 0), (.sipush 0, 0, 0, 0), (.ireturn, 1, 0, 0)],
  [(.iinc 3 1, 0, 0, 0), (.goto 0, 1, 0, 0)],
  [(.sipush 1, 0, 0, 0), (.ireturn, 1, 0, 0)]]
def mk_27 : List (List mI) := [
  [(.aload 0, 0, 0, 0), (.getfield 2, 3, 5, 0), (.iload 1, 0, 0, 0), (.laload, 0, 0, 0), (.jsr (-1), 0, 0, 0), (.lcmp, 0, 0, 0), (.ifCond .eq 0, 1, 0, 0), (.return_, 0, 0, 0)],
  [(.aload 0, 0, 0, 0), (.getfield 2, 3, 4, 0), (.aload 0, 0, 0, 0), (.getfield 2, 3, 2, 0), (.invokevirtual 78, 2, 7, 0), (.aload 0, 0, 0, 0), (.getfield 2, 3, 4, 0), (.iload 1, 0, 0, 0), (.putfield 0, 7, 4, 0), (.sipush 0, 0, 0, 0), (.istore 3, 0, 0, 0)],
  [(.iload 3, 0, 0, 0), (.iload 2, 0, 0, 0), (.if_icmp .ge 0, 3, 0, 0), (.aload 0, 0, 0, 0), (.getfield 2, 3, 1, 0), (.aload 0, 0, 0, 0), (.getfield 2, 3, 4, 0), (.invokevirtual 95, 2, 10, 0), (.aload 0, 0, 0, 0), (.getfield 2, 3, 1, 0), (.aload 0, 0, 0, 0), (.getfield 2, 3, 4, 0), (.invokevirtual 96, 2, 10, 0), (.pop, 0, 0, 0), (.iinc 3 1, 0, 0, 0), (.goto 0, 2, 0, 0)],
  [(.jsr 0, 0, 0, 0), (.lstore 3, 0, 0, 0), (.sipush 0, 0, 0, 0), (.istore 5, 0, 0, 0)],
  [(.iload 5, 0, 0, 0), (.aload 0, 0, 0, 0), (.getfield 2, 3, 0, 0), (.getfield 0, 0, 4, 0), (.if_icmp .ge 0, 5, 0, 0), (.lload 3, 0, 0, 0), (.aload 0, 0, 0, 0), (.getfield 2, 3, 4, 0), (.getfield 2, 7, 0, 0), (.iload 5, 0, 0, 0), (.iaload, 0, 0, 0), (.i2l, 0, 0, 0), (.sipush 5, 0, 0, 0), (.iload 5, 0, 0, 0), (.imul, 0, 0, 0), (.lshl, 0, 0, 0), (.lor, 0, 0, 0), (.lstore 3, 0, 0, 0), (.iinc 5 1, 0, 0, 0), (.goto 0, 4, 0, 0)],
  [(.aload 0, 0, 0, 0), (.getfield 2, 3, 5, 0), (.iload 1, 0, 0, 0), (.lload 3, 0, 0, 0), (.lastore, 0, 0, 0), (.return_, 0, 0, 0)]]
def mk_28 : List (List mI) := [
  [(.aload 0, 0, 0, 0), (.getfield 2, 3, 3, 0), (.invokevirtual 74, 1, 6, 0), (.istore 2, 0, 0, 0), (.aload 0, 0, 0, 0), (.getfield 2, 3, 2, 0), (.getfield 0, 7, 2, 0), (.iload 2, 0, 0, 0), (.iadd, 0, 0, 0), (.sipush 999, 0, 0, 0), (.if_icmp .le 0, 1, 0, 0), (.sipush 0, 0, 0, 0), (.ireturn, 0, 0, 0)],
  [(.sipush 0, 0, 0, 0), (.istore 3, 0, 0, 0), (.sipush 0, 0, 0, 0), (.istore 4, 0, 0, 0)],
  [(.iload 4, 0, 0, 0), (.sipush 20, 0, 0, 0), (.if_icmp .gt 0, 4, 0, 0), (.aload 0, 0, 0, 0), (.iload 1, 0, 0, 0), (.iload 4, 0, 0, 0), (.iload 2, 0, 0, 0), (.invokevirtual 29, 4, 3, 0), (.ifCond .eq 0, 3, 0, 0), (.iload 3, 0, 0, 0), (.sipush 1, 0, 0, 0), (.iload 4, 0, 0, 0), (.ishl, 0, 0, 0), (.ior, 0, 0, 0), (.istore 3, 0, 0, 0)],
  [(.iinc 4 1, 0, 0, 0), (.goto 0, 2, 0, 0)],
  [(.iload 3, 0, 0, 0), (.ireturn, 0, 0, 0)]]
def mk_29 : List (List mI) := [
  [(.aload 0, 0, 0, 0), (.getfield 2, 3, 4, 0), (.aload 0, 0, 0, 0), (.getfield 2, 3, 2, 0), (.invokevirtual 78, 2, 7, 0), (.aload 0, 0, 0, 0), (.getfield 2, 3, 4, 0), (.getfield 2, 7, 0, 0), (.iload 1, 0, 0, 0), (.iload 2, 0, 0, 0), (.iastore, 0, 0, 0), (.sipush 0, 0, 0, 0), (.istore 4, 0, 0, 0)],
  [(.iload 4, 0, 0, 0), (.iload 3, 0, 0, 0), (.if_icmp .ge 0, 3, 0, 0), (.aload 0, 0, 0, 0), (.getfield 2, 3, 3, 0), (.iload 4, 0, 0, 0), (.aload 0, 0, 0, 0), (.getfield 2, 3, 4, 0), (.invokevirtual 75, 3, 6, 0), (.ifCond .ne 0, 2, 0, 0), (.sipush 0, 0, 0, 0), (.ireturn, 1, 0, 0)],
  [(.aload 0, 0, 0, 0), (.getfield 2, 3, 1, 0), (.aload 0, 0, 0, 0), (.getfield 2, 3, 4, 0), (.invokevirtual 95, 2, 10, 0), (.aload 0, 0, 0, 0), (.getfield 2, 3, 1, 0), (.aload 0, 0, 0, 0), (.getfield 2, 3, 4, 0), (.invokevirtual 96, 2, 10, 0), (.pop, 0, 0, 0), (.iinc 4 1, 0, 0, 0), (.goto 0, 1, 0, 0)],
  [(.aload 0, 0, 0, 0), (.getfield 2, 3, 3, 0), (.iload 3, 0, 0, 0), (.aload 0, 0, 0, 0), (.getfield 2, 3, 4, 0), (.invokevirtual 75, 3, 6, 0), (.ireturn, 1, 0, 0)]]
def mk_30 : List (List mI) := [
  [(.sipush 30, 0, 0, 0), (.sipush 999, 0, 0, 0), (.aload 0, 0, 0, 0), (.getfield 2, 3, 2, 0), (.getfield 0, 7, 2, 0), (.isub, 0, 0, 0), (.invokestatic 277, 2, 0, 0), (.istore 3, 0, 0, 0), (.aload 0, 0, 0, 0), (.sipush (-1), 0, 0, 0), (.putfield 0, 3, 7, 0), (.aload 0, 0, 0, 0), (.sipush (-1), 0, 0, 0), (.putfield 0, 3, 8, 0), (.iload 2, 0, 0, 0), (.ifCond .ne 0, 1, 0, 0), (.return_, 0, 0, 0)],
  [(.aload 0, 0, 0, 0), (.iload 1, 0, 0, 0), (.iload 2, 0, 0, 0), (.iload 3, 0, 0, 0), (.invokevirtual 31, 4, 3, 0), (.sipush 0, 0, 0, 0), (.istore 4, 0, 0, 0)],
  [(.iload 4, 0, 0, 0), (.iload 3, 0, 0, 0), (.if_icmp .ge 0, 5, 0, 0), (.aload 0, 0, 0, 0), (.iload 4, 0, 0, 0), (.invokevirtual 32, 2, 3, 0), (.istore 5, 0, 0, 0), (.aload 0, 0, 0, 0), (.getfield 0, 3, 7, 0), (.sipush (-1), 0, 0, 0), (.if_icmp .eq 0, 3, 0, 0), (.iload 5, 0, 0, 0), (.aload 0, 0, 0, 0), (.getfield 0, 3, 8, 0), (.if_icmp .ge 0, 4, 0, 0)],
  [(.aload 0, 0, 0, 0), (.iload 4, 0, 0, 0), (.sipush 1, 0, 0, 0), (.iadd, 0, 0, 0), (.putfield 0, 3, 7, 0), (.aload 0, 0, 0, 0), (.iload 5, 0, 0, 0), (.putfield 0, 3, 8, 0)],
  [(.iinc 4 1, 0, 0, 0), (.goto 0, 2, 0, 0)],
  [(.return_, 0, 0, 0)]]
def mk_31 : List (List mI) := [
  [(.aload 0, 0, 0, 0), (.getfield 2, 3, 6, 0), (.sipush 0, 0, 0, 0), (.invokestatic 280, 2, 0, 0), (.sipush 0, 0, 0, 0), (.istore 4, 0, 0, 0)],
  [(.iload 4, 0, 0, 0), (.sipush 20, 0, 0, 0), (.if_icmp .gt 0, 4, 0, 0), (.iload 2, 0, 0, 0), (.iload 4, 0, 0, 0), (.ishr, 0, 0, 0), (.sipush 1, 0, 0, 0), (.iand, 0, 0, 0), (.sipush 1, 0, 0, 0), (.if_icmp .ne 0, 3, 0, 0), (.aload 0, 0, 0, 0), (.getfield 2, 3, 4, 0), (.aload 0, 0, 0, 0), (.getfield 2, 3, 2, 0), (.invokevirtual 78, 2, 7, 0), (.aload 0, 0, 0, 0), (.getfield 2, 3, 4, 0), (.getfield 2, 7, 0, 0), (.iload 1, 0, 0, 0), (.iload 4, 0, 0, 0), (.iastore, 0, 0, 0), (.sipush 0, 0, 0, 0), (.istore 5, 0, 0, 0)],
  [(.iload 5, 0, 0, 0), (.iload 3, 0, 0, 0), (.if_icmp .ge 0, 3, 0, 0), (.aload 0, 0, 0, 0), (.getfield 2, 3, 1, 0), (.aload 0, 0, 0, 0), (.getfield 2, 3, 4, 0), (.invokevirtual 95, 2, 10, 0), (.aload 0, 0, 0, 0), (.getfield 2, 3, 1, 0), (.aload 0, 0, 0, 0), (.getfield 2, 3, 4, 0), (.invokevirtual 96, 2, 10, 0), (.pop, 0, 0, 0), (.aload 0, 0, 0, 0), (.getfield 2, 3, 6, 0), (.iload 5, 0, 0, 0), (.sipush 21, 0, 0, 0), (.imul, 0, 0, 0), (.aload 0, 0, 0, 0), (.getfield 2, 3, 4, 0), (.getfield 2, 7, 0, 0), (.iload 1, 0, 0, 0), (.iaload, 0, 0, 0), (.iadd, 0, 0, 0), (.dup2, 0, 0, 0), (.iaload, 0, 0, 0), (.sipush 1, 0, 0, 0), (.iadd, 0, 0, 0), (.iastore, 0, 0, 0), (.iinc 5 1, 0, 0, 0), (.goto 0, 2, 0, 0)],
  [(.iinc 4 1, 0, 0, 0), (.goto 0, 1, 0, 0)],
  [(.return_, 0, 0, 0)]]
def mk_32 : List (List mI) := [
  [(.sipush 0, 0, 0, 0), (.istore 2, 0, 0, 0), (.sipush 0, 0, 0, 0), (.istore 3, 0, 0, 0)],
  [(.iload 3, 0, 0, 0), (.sipush 20, 0, 0, 0), (.if_icmp .gt 0, 2, 0, 0), (.iload 2, 0, 0, 0), (.aload 0, 0, 0, 0), (.getfield 2, 3, 6, 0), (.iload 1, 0, 0, 0), (.sipush 21, 0, 0, 0), (.imul, 0, 0, 0), (.iload 3, 0, 0, 0), (.iadd, 0, 0, 0), (.iaload, 0, 0, 0), (.invokestatic 275, 2, 0, 0), (.istore 2, 0, 0, 0), (.iinc 3 1, 0, 0, 0), (.goto 0, 1, 0, 0)],
  [(.iload 2, 0, 0, 0), (.ireturn, 0, 0, 0)]]
def mk_33 : List (List mI) := [
  [(.aload 0, 0, 0, 0), (.monitorexit, 0, 0, 0), (.aload 0, 0, 0, 0), (.sipush 0, 0, 0, 0), (.putfield 0, 4, 2, 0), (.aload 0, 0, 0, 0), (.sipush (-1), 0, 0, 0), (.putfield 0, 4, 3, 0), (.aload 0, 0, 0, 0), (.sipush (-1), 0, 0, 0), (.putfield 0, 4, 4, 0), (.aload 0, 0, 0, 0), (.sipush 0, 0, 0, 0), (.putfield 0, 4, 5, 0), (.aload 0, 0, 0, 0), (.new 9, 0, 0, 0), (.dup, 0, 0, 0), (.aload 1, 0, 0, 0), (.invokespecial 82, 2, 9, 0), (.putfield 2, 4, 0, 0), (.aload 0, 0, 0, 0), (.aload 2, 0, 0, 0), (.putfield 2, 4, 1, 0), (.return_, 0, 0, 0)]]
def mk_34 : List (List mI) := [
  [(.aload 0, 0, 0, 0), (.invokevirtual 38, 1, 4, 0), (.aload 0, 0, 0, 0), (.getfield 2, 4, 1, 0), (.invokevirtual 1, 1, 0, 0), (.sipush 0, 0, 0, 0), (.istore 1, 0, 0, 0)],
  [(.iload 1, 0, 0, 0), (.sipush 80, 0, 0, 0), (.if_icmp .ge 0, 5, 0, 0), (.aload 0, 0, 0, 0), (.getfield 2, 4, 0, 0), (.getfield 0, 9, 1, 0), (.ifCond .ne 0, 2, 0, 0), (.aload 0, 0, 0, 0), (.getfield 2, 4, 1, 0), (.invokevirtual 2, 1, 0, 0), (.iload 1, 0, 0, 0), (.ireturn, 0, 0, 0)],
  [(.aload 0, 0, 0, 0), (.invokevirtual 40, 1, 4, 0), (.ifCond .eq 0, 3, 0, 0), (.aload 0, 0, 0, 0), (.sipush 59, 0, 0, 0), (.invokevirtual 51, 2, 4, 0), (.ifCond .ne 0, 4, 0, 0)],
  [(.sipush (-1), 0, 0, 0), (.ireturn, 0, 0, 0)],
  [(.iinc 1 1, 0, 0, 0), (.goto 0, 1, 0, 0)],
  [(.aload 0, 0, 0, 0), (.getfield 2, 4, 0, 0), (.getfield 0, 9, 1, 0), (.ifCond .eq 0, 6, 0, 0), (.aload 0, 0, 0, 0), (.sipush 5, 0, 0, 0), (.aload 0, 0, 0, 0), (.getfield 2, 4, 0, 0), (.getfield 0, 9, 2, 0), (.invokevirtual 39, 3, 4, 0), (.pop, 0, 0, 0), (.sipush (-1), 0, 0, 0), (.ireturn, 0, 0, 0)],
  [(.aload 0, 0, 0, 0), (.getfield 2, 4, 1, 0), (.invokevirtual 2, 1, 0, 0), (.sipush 80, 0, 0, 0), (.ireturn, 0, 0, 0)]]
def mk_35 : List (List mI) := [
  [(.aload 0, 0, 0, 0), (.invokevirtual 38, 1, 4, 0), (.aload 0, 0, 0, 0), (.aload 0, 0, 0, 0), (.getfield 2, 4, 0, 0), (.getfield 0, 9, 1, 0), (.sipush 1, 0, 0, 0), (.if_icmp .ne 0, 1, 0, 0), (.aload 0, 0, 0, 0), (.getfield 2, 4, 0, 0), (.getfield 0, 9, 4, 0), (.goto 0, 2, 0, 0)],
  [(.sipush (-1), 0, 0, 0)],
  [(.putfield 0, 4, 4, 0), (.aload 0, 0, 0, 0), (.invokevirtual 36, 1, 4, 0), (.ifCond .ne 0, 3, 0, 0), (.aload 0, 0, 0, 0), (.invokevirtual 37, 1, 4, 0), (.ifCond .ne 0, 3, 0, 0), (.aload 0, 0, 0, 0), (.sipush 1, 0, 0, 0), (.aload 0, 0, 0, 0), (.getfield 2, 4, 0, 0), (.getfield 0, 9, 2, 0), (.invokevirtual 39, 3, 4, 0), (.ireturn, 1, 0, 0)],
  [(.aload 0, 0, 0, 0), (.getfield 2, 4, 0, 0), (.invokevirtual 84, 1, 9, 0), (.aload 0, 0, 0, 0), (.getfield 2, 4, 1, 0), (.getfield 2, 0, 3, 0), (.invokevirtual 64, 1, 5, 0), (.aload 0, 0, 0, 0), (.sipush 3, 0, 0, 0), (.putfield 0, 4, 5, 0), (.aload 0, 0, 0, 0), (.getfield 2, 4, 1, 0), (.getfield 2, 0, 3, 0), (.sipush 3, 0, 0, 0), (.invokevirtual 65, 2, 5, 0), (.aload 0, 0, 0, 0), (.invokevirtual 36, 1, 4, 0), (.ifCond .eq 0, 4, 0, 0), (.aload 0, 0, 0, 0), (.sipush 0, 0, 0, 0), (.invokevirtual 53, 2, 4, 0), (.ifCond .eq 0, 5, 0, 0), (.goto 0, 6, 0, 0)],
  [(.aload 0, 0, 0, 0), (.sipush 0, 0, 0, 0), (.invokevirtual 56, 2, 4, 0), (.ifCond .ne 0, 6, 0, 0)],
  [(.sipush 0, 0, 0, 0), (.ireturn, 1, 0, 0)],
  [(.aload 0, 0, 0, 0), (.getfield 2, 4, 1, 0), (.getfield 2, 0, 3, 0), (.sipush 3, 0, 0, 0), (.invokevirtual 66, 2, 5, 0), (.aload 0, 0, 0, 0), (.getfield 2, 4, 0, 0), (.getfield 0, 9, 1, 0), (.ifCond .eq 0, 7, 0, 0), (.aload 0, 0, 0, 0), (.sipush 1, 0, 0, 0), (.aload 0, 0, 0, 0), (.getfield 2, 4, 0, 0), (.getfield 0, 9, 2, 0), (.invokevirtual 39, 3, 4, 0), (.ifCond .eq 0, 8, 0, 0)],
  [(.sipush 1, 0, 0, 0), (.goto 0, 9, 0, 0)],
  [(.sipush 0, 0, 0, 0)],
  [(.ireturn, 1, 0, 0)]]
def mk_36 : List (List mI) := [
  [(.aload 0, 0, 0, 0), (.getfield 0, 4, 4, 0), (.sipush 17, 0, 0, 0), (.if_icmp .eq 0, 1, 0, 0), (.aload 0, 0, 0, 0), (.getfield 0, 4, 4, 0), (.sipush 24, 0, 0, 0), (.if_icmp .eq 0, 1, 0, 0), (.aload 0, 0, 0, 0), (.getfield 0, 4, 4, 0), (.sipush 25, 0, 0, 0), (.if_icmp .ne 0, 2, 0, 0)],
  [(.sipush 1, 0, 0, 0), (.goto 0, 3, 0, 0)],
  [(.sipush 0, 0, 0, 0)],
  [(.ireturn, 1, 0, 0)]]
def mk_37 : List (List mI) := [
  [(.aload 0, 0, 0, 0), (.getfield 0, 4, 4, 0), (.sipush 26, 0, 0, 0), (.if_icmp .eq 0, 1, 0, 0), (.aload 0, 0, 0, 0), (.getfield 0, 4, 4, 0), (.sipush 10, 0, 0, 0), (.if_icmp .eq 0, 1, 0, 0), (.aload 0, 0, 0, 0), (.getfield 0, 4, 4, 0), (.sipush 11, 0, 0, 0), (.if_icmp .ne 0, 2, 0, 0)],
  [(.sipush 1, 0, 0, 0), (.goto 0, 3, 0, 0)],
  [(.sipush 0, 0, 0, 0)],
  [(.ireturn, 1, 0, 0)]]
def mk_38 : List (List mI) := [
  [(.aload 0, 0, 0, 0), (.sipush 0, 0, 0, 0), (.putfield 0, 4, 2, 0), (.aload 0, 0, 0, 0), (.sipush (-1), 0, 0, 0), (.putfield 0, 4, 3, 0), (.aload 0, 0, 0, 0), (.getfield 2, 4, 0, 0), (.invokevirtual 83, 1, 9, 0), (.return_, 0, 0, 0)]]
def mk_39 : List (List mI) := [
  [(.aload 0, 0, 0, 0), (.iload 1, 0, 0, 0), (.putfield 0, 4, 2, 0), (.aload 0, 0, 0, 0), (.iload 2, 0, 0, 0), (.putfield 0, 4, 3, 0), (.sipush 0, 0, 0, 0), (.ireturn, 1, 0, 0)]]
def mk_40 : List (List mI) := [
  [(.aload 0, 0, 0, 0), (.getfield 2, 4, 0, 0), (.getfield 0, 9, 1, 0), (.sipush 1, 0, 0, 0), (.if_icmp .ne 0, 1, 0, 0), (.aload 0, 0, 0, 0), (.getfield 2, 4, 0, 0), (.getfield 0, 9, 4, 0), (.goto 0, 2, 0, 0)],
  [(.sipush (-1), 0, 0, 0)],
  [(.tableswitch 18 0 9 #[3, 18, 4, 5, 6, 7, 10, 13, 16, 17], 0, 0, 0)],
  [(.aload 0, 0, 0, 0), (.invokevirtual 41, 1, 4, 0), (.ireturn, 1, 0, 0)],
  [(.aload 0, 0, 0, 0), (.invokevirtual 42, 1, 4, 0), (.ireturn, 1, 0, 0)],
  [(.aload 0, 0, 0, 0), (.invokevirtual 43, 1, 4, 0), (.ireturn, 1, 0, 0)],
  [(.aload 0, 0, 0, 0), (.invokevirtual 44, 1, 4, 0), (.ireturn, 1, 0, 0)],
  [(.aload 0, 0, 0, 0), (.sipush 0, 0, 0, 0), (.invokevirtual 45, 2, 4, 0), (.ifCond .eq 0, 8, 0, 0), (.aload 0, 0, 0, 0), (.sipush 0, 0, 0, 0), (.invokevirtual 56, 2, 4, 0), (.ifCond .eq 0, 8, 0, 0), (.aload 0, 0, 0, 0), (.invokevirtual 281, 1, 4, 0), (.ifCond .eq 0, 8, 0, 0), (.sipush 1, 0, 0, 0), (.goto 0, 9, 0, 0)],
  [(.sipush 0, 0, 0, 0)],
  [(.ireturn, 1, 0, 0)],
  [(.aload 0, 0, 0, 0), (.sipush 1, 0, 0, 0), (.invokevirtual 45, 2, 4, 0), (.ifCond .eq 0, 11, 0, 0), (.aload 0, 0, 0, 0), (.sipush 0, 0, 0, 0), (.invokevirtual 56, 2, 4, 0), (.ifCond .eq 0, 11, 0, 0), (.aload 0, 0, 0, 0), (.invokevirtual 281, 1, 4, 0), (.ifCond .eq 0, 11, 0, 0), (.sipush 1, 0, 0, 0), (.goto 0, 12, 0, 0)],
  [(.sipush 0, 0, 0, 0)],
  [(.ireturn, 1, 0, 0)],
  [(.aload 0, 0, 0, 0), (.sipush 2, 0, 0, 0), (.invokevirtual 45, 2, 4, 0), (.ifCond .eq 0, 14, 0, 0), (.aload 0, 0, 0, 0), (.sipush 0, 0, 0, 0), (.invokevirtual 56, 2, 4, 0), (.ifCond .eq 0, 14, 0, 0), (.aload 0, 0, 0, 0), (.invokevirtual 281, 1, 4, 0), (.ifCond .eq 0, 14, 0, 0), (.sipush 1, 0, 0, 0), (.goto 0, 15, 0, 0)],
  [(.sipush 0, 0, 0, 0)],
  [(.ireturn, 1, 0, 0)],
  [(.aload 0, 0, 0, 0), (.invokevirtual 46, 1, 4, 0), (.ireturn, 1, 0, 0)],
  [(.aload 0, 0, 0, 0), (.invokevirtual 47, 1, 4, 0), (.ireturn, 1, 0, 0)],
  [(.aload 0, 0, 0, 0), (.sipush 1, 0, 0, 0), (.aload 0, 0, 0, 0), (.getfield 2, 4, 0, 0), (.getfield 0, 9, 2, 0), (.invokevirtual 39, 3, 4, 0), (.ireturn, 1, 0, 0)]]
def mk_41 : List (List mI) := [
  [(.aload 0, 0, 0, 0), (.getfield 2, 4, 1, 0), (.getfield 0, 0, 4, 0), (.sipush 7, 0, 0, 0), (.if_icmp .lt 0, 1, 0, 0), (.aload 0, 0, 0, 0), (.sipush 5, 0, 0, 0), (.aload 0, 0, 0, 0), (.getfield 2, 4, 0, 0), (.getfield 0, 9, 2, 0), (.invokevirtual 39, 3, 4, 0), (.ireturn, 1, 0, 0)],
  [(.aload 0, 0, 0, 0), (.getfield 2, 4, 0, 0), (.invokevirtual 84, 1, 9, 0), (.aload 0, 0, 0, 0), (.invokevirtual 49, 1, 4, 0), (.istore 1, 0, 0, 0), (.iload 1, 0, 0, 0), (.ifCond .ne 0, 2, 0, 0), (.sipush 0, 0, 0, 0), (.ireturn, 1, 0, 0)],
  [(.aload 0, 0, 0, 0), (.getfield 2, 4, 1, 0), (.iload 1, 0, 0, 0), (.invokevirtual 4, 2, 0, 0), (.sipush (-1), 0, 0, 0), (.if_icmp .eq 0, 3, 0, 0), (.aload 0, 0, 0, 0), (.sipush 3, 0, 0, 0), (.aload 0, 0, 0, 0), (.getfield 2, 4, 0, 0), (.getfield 0, 9, 2, 0), (.invokevirtual 39, 3, 4, 0), (.ireturn, 1, 0, 0)],
  [(.aload 0, 0, 0, 0), (.getfield 2, 4, 0, 0), (.invokevirtual 84, 1, 9, 0), (.aload 0, 0, 0, 0), (.sipush 1, 0, 0, 0), (.invokevirtual 50, 2, 4, 0), (.ifCond .eq 0, 4, 0, 0), (.aload 0, 0, 0, 0), (.sipush 0, 0, 0, 0), (.sipush 20, 0, 0, 0), (.invokevirtual 52, 3, 4, 0), (.ifCond .ne 0, 5, 0, 0)],
  [(.sipush 0, 0, 0, 0), (.ireturn, 1, 0, 0)],
  [(.aload 0, 0, 0, 0), (.getfield 2, 4, 1, 0), (.iload 1, 0, 0, 0), (.aload 0, 0, 0, 0), (.getfield 2, 4, 0, 0), (.getfield 0, 9, 5, 0), (.invokevirtual 5, 3, 0, 0), (.aload 0, 0, 0, 0), (.getfield 2, 4, 0, 0), (.invokevirtual 84, 1, 9, 0), (.sipush 1, 0, 0, 0), (.ireturn, 1, 0, 0)]]
def mk_42 : List (List mI) := [
  [(.aload 0, 0, 0, 0), (.getfield 2, 4, 1, 0), (.getfield 0, 0, 5, 0), (.sipush 12, 0, 0, 0), (.if_icmp .lt 0, 1, 0, 0), (.aload 0, 0, 0, 0), (.sipush 5, 0, 0, 0), (.aload 0, 0, 0, 0), (.getfield 2, 4, 0, 0), (.getfield 0, 9, 2, 0), (.invokevirtual 39, 3, 4, 0), (.ireturn, 1, 0, 0)],
  [(.aload 0, 0, 0, 0), (.getfield 2, 4, 0, 0), (.invokevirtual 84, 1, 9, 0), (.aload 0, 0, 0, 0), (.sipush 0, 0, 0, 0), (.invokevirtual 48, 2, 4, 0), (.istore 1, 0, 0, 0), (.iload 1, 0, 0, 0), (.sipush (-1), 0, 0, 0), (.if_icmp .ne 0, 2, 0, 0), (.sipush 0, 0, 0, 0), (.ireturn, 1, 0, 0)],
  [(.aload 0, 0, 0, 0), (.getfield 2, 4, 0, 0), (.invokevirtual 84, 1, 9, 0), (.aload 0, 0, 0, 0), (.aload 0, 0, 0, 0), (.getfield 2, 4, 1, 0), (.getfield 2, 0, 2, 0), (.iload 1, 0, 0, 0), (.iaload, 0, 0, 0), (.sipush 1, 0, 0, 0), (.iload 1, 0, 0, 0), (.ishl, 0, 0, 0), (.ior, 0, 0, 0), (.invokevirtual 48, 2, 4, 0), (.istore 2, 0, 0, 0), (.iload 2, 0, 0, 0), (.sipush (-1), 0, 0, 0), (.if_icmp .ne 0, 3, 0, 0), (.sipush 0, 0, 0, 0), (.ireturn, 1, 0, 0)],
  [(.aload 0, 0, 0, 0), (.getfield 2, 4, 1, 0), (.iload 1, 0, 0, 0), (.iload 2, 0, 0, 0), (.invokevirtual 6, 3, 0, 0), (.aload 0, 0, 0, 0), (.getfield 2, 4, 0, 0), (.invokevirtual 84, 1, 9, 0), (.sipush 1, 0, 0, 0), (.ireturn, 1, 0, 0)]]
def mk_43 : List (List mI) := [
  [(.aload 0, 0, 0, 0), (.getfield 2, 4, 0, 0), (.invokevirtual 84, 1, 9, 0), (.aload 0, 0, 0, 0), (.aload 0, 0, 0, 0), (.getfield 2, 4, 1, 0), (.getfield 0, 0, 6, 0), (.invokevirtual 48, 2, 4, 0), (.istore 1, 0, 0, 0), (.iload 1, 0, 0, 0), (.sipush (-1), 0, 0, 0), (.if_icmp .ne 0, 1, 0, 0), (.sipush 0, 0, 0, 0), (.ireturn, 1, 0, 0)],
  [(.aload 0, 0, 0, 0), (.getfield 2, 4, 1, 0), (.dup, 0, 0, 0), (.getfield 0, 0, 6, 0), (.sipush 1, 0, 0, 0), (.iload 1, 0, 0, 0), (.ishl, 0, 0, 0), (.ior, 0, 0, 0), (.putfield 0, 0, 6, 0), (.aload 0, 0, 0, 0), (.getfield 2, 4, 0, 0), (.invokevirtual 84, 1, 9, 0), (.sipush 1, 0, 0, 0), (.ireturn, 1, 0, 0)]]
def mk_44 : List (List mI) := [
  [(.aload 0, 0, 0, 0), (.getfield 2, 4, 0, 0), (.invokevirtual 84, 1, 9, 0), (.aload 0, 0, 0, 0), (.aload 0, 0, 0, 0), (.getfield 2, 4, 1, 0), (.getfield 0, 0, 7, 0), (.invokevirtual 48, 2, 4, 0), (.istore 1, 0, 0, 0), (.iload 1, 0, 0, 0), (.sipush (-1), 0, 0, 0), (.if_icmp .ne 0, 1, 0, 0), (.sipush 0, 0, 0, 0), (.ireturn, 1, 0, 0)],
  [(.aload 0, 0, 0, 0), (.getfield 2, 4, 1, 0), (.dup, 0, 0, 0), (.getfield 0, 0, 7, 0), (.sipush 1, 0, 0, 0), (.iload 1, 0, 0, 0), (.ishl, 0, 0, 0), (.ior, 0, 0, 0), (.putfield 0, 0, 7, 0), (.aload 0, 0, 0, 0), (.getfield 2, 4, 0, 0), (.invokevirtual 84, 1, 9, 0), (.sipush 1, 0, 0, 0), (.ireturn, 1, 0, 0)]]
def mk_45 : List (List mI) := [
  [(.aload 0, 0, 0, 0), (.getfield 2, 4, 1, 0), (.getfield 2, 0, 3, 0), (.iload 1, 0, 0, 0), (.invokevirtual 67, 2, 5, 0), (.ifCond .eq 0, 1, 0, 0), (.aload 0, 0, 0, 0), (.sipush 5, 0, 0, 0), (.aload 0, 0, 0, 0), (.getfield 2, 4, 0, 0), (.getfield 0, 9, 2, 0), (.invokevirtual 39, 3, 4, 0), (.ireturn, 1, 0, 0)],
  [(.aload 0, 0, 0, 0), (.getfield 2, 4, 0, 0), (.invokevirtual 84, 1, 9, 0), (.aload 0, 0, 0, 0), (.iload 1, 0, 0, 0), (.putfield 0, 4, 5, 0), (.aload 0, 0, 0, 0), (.getfield 2, 4, 1, 0), (.getfield 2, 0, 3, 0), (.iload 1, 0, 0, 0), (.invokevirtual 65, 2, 5, 0), (.sipush 1, 0, 0, 0), (.ireturn, 1, 0, 0)]]
def mk_46 : List (List mI) := [
  [(.aload 0, 0, 0, 0), (.getfield 2, 4, 0, 0), (.invokevirtual 84, 1, 9, 0), (.aload 0, 0, 0, 0), (.sipush 1, 0, 0, 0), (.sipush 20, 0, 0, 0), (.invokevirtual 52, 3, 4, 0), (.ifCond .ne 0, 1, 0, 0), (.sipush 0, 0, 0, 0), (.ireturn, 1, 0, 0)],
  [(.aload 0, 0, 0, 0), (.getfield 2, 4, 1, 0), (.aload 0, 0, 0, 0), (.getfield 2, 4, 0, 0), (.getfield 0, 9, 5, 0), (.putfield 0, 0, 8, 0), (.aload 0, 0, 0, 0), (.getfield 2, 4, 0, 0), (.invokevirtual 84, 1, 9, 0), (.sipush 1, 0, 0, 0), (.ireturn, 1, 0, 0)]]
def mk_47 : List (List mI) := [
  [(.aload 0, 0, 0, 0), (.getfield 2, 4, 0, 0), (.invokevirtual 84, 1, 9, 0), (.aload 0, 0, 0, 0), (.sipush 0, 0, 0, 0), (.sipush 100, 0, 0, 0), (.invokevirtual 52, 3, 4, 0), (.ifCond .ne 0, 1, 0, 0), (.sipush 0, 0, 0, 0), (.ireturn, 1, 0, 0)],
  [(.aload 0, 0, 0, 0), (.getfield 2, 4, 1, 0), (.aload 0, 0, 0, 0), (.getfield 2, 4, 0, 0), (.getfield 0, 9, 5, 0), (.putfield 0, 0, 9, 0), (.aload 0, 0, 0, 0), (.getfield 2, 4, 0, 0), (.invokevirtual 84, 1, 9, 0), (.sipush 1, 0, 0, 0), (.ireturn, 1, 0, 0)]]
def mk_48 : List (List mI) := [
  [(.aload 0, 0, 0, 0), (.invokevirtual 49, 1, 4, 0), (.istore 2, 0, 0, 0), (.iload 2, 0, 0, 0), (.ifCond .ne 0, 1, 0, 0), (.sipush (-1), 0, 0, 0), (.ireturn, 0, 0, 0)],
  [(.aload 0, 0, 0, 0), (.getfield 2, 4, 1, 0), (.iload 2, 0, 0, 0), (.invokevirtual 4, 2, 0, 0), (.istore 3, 0, 0, 0), (.iload 3, 0, 0, 0), (.sipush (-1), 0, 0, 0), (.if_icmp .eq 0, 2, 0, 0), (.iload 1, 0, 0, 0), (.iload 3, 0, 0, 0), (.ishr, 0, 0, 0), (.sipush 1, 0, 0, 0), (.iand, 0, 0, 0), (.sipush 1, 0, 0, 0), (.if_icmp .ne 0, 3, 0, 0)],
  [(.aload 0, 0, 0, 0), (.sipush 3, 0, 0, 0), (.aload 0, 0, 0, 0), (.getfield 2, 4, 0, 0), (.getfield 0, 9, 2, 0), (.invokevirtual 39, 3, 4, 0), (.pop, 0, 0, 0), (.sipush (-1), 0, 0, 0), (.ireturn, 0, 0, 0)],
  [(.iload 3, 0, 0, 0), (.ireturn, 0, 0, 0)]]
def mk_49 : List (List mI) := [
  [(.aload 0, 0, 0, 0), (.getfield 2, 4, 0, 0), (.getfield 0, 9, 4, 0), (.ifCond .lt 0, 1, 0, 0), (.aload 0, 0, 0, 0), (.getfield 2, 4, 0, 0), (.getfield 0, 9, 4, 0), (.sipush 24, 0, 0, 0), (.if_icmp .ge 0, 1, 0, 0), (.sipush 1, 0, 0, 0), (.goto 0, 2, 0, 0)],
  [(.sipush 0, 0, 0, 0)],
  [(.istore 1, 0, 0, 0), (.aload 0, 0, 0, 0), (.getfield 2, 4, 0, 0), (.getfield 0, 9, 1, 0), (.sipush 1, 0, 0, 0), (.if_icmp .ne 0, 3, 0, 0), (.iload 1, 0, 0, 0), (.ifCond .eq 0, 4, 0, 0)],
  [(.aload 0, 0, 0, 0), (.sipush 1, 0, 0, 0), (.aload 0, 0, 0, 0), (.getfield 2, 4, 0, 0), (.getfield 0, 9, 2, 0), (.invokevirtual 39, 3, 4, 0), (.pop, 0, 0, 0), (.sipush 0, 0, 0, 0), (.ireturn, 0, 0, 0)],
  [(.aload 0, 0, 0, 0), (.getfield 2, 4, 0, 0), (.invokevirtual 85, 1, 9, 0), (.sipush 6, 0, 0, 0), (.if_icmp .le 0, 5, 0, 0), (.aload 0, 0, 0, 0), (.sipush 1, 0, 0, 0), (.aload 0, 0, 0, 0), (.getfield 2, 4, 0, 0), (.getfield 0, 9, 2, 0), (.sipush 6, 0, 0, 0), (.iadd, 0, 0, 0), (.invokevirtual 39, 3, 4, 0), (.pop, 0, 0, 0), (.sipush 0, 0, 0, 0), (.ireturn, 0, 0, 0)],
  [(.aload 0, 0, 0, 0), (.getfield 2, 4, 0, 0), (.invokevirtual 88, 1, 9, 0), (.ireturn, 0, 0, 0)]]
def mk_50 : List (List mI) := [
  [(.aload 0, 0, 0, 0), (.getfield 2, 4, 0, 0), (.iload 1, 0, 0, 0), (.invokevirtual 86, 2, 9, 0), (.ifCond .ne 0, 1, 0, 0), (.aload 0, 0, 0, 0), (.sipush 1, 0, 0, 0), (.aload 0, 0, 0, 0), (.getfield 2, 4, 0, 0), (.getfield 0, 9, 2, 0), (.invokevirtual 39, 3, 4, 0), (.ireturn, 1, 0, 0)],
  [(.aload 0, 0, 0, 0), (.getfield 2, 4, 0, 0), (.invokevirtual 84, 1, 9, 0), (.sipush 1, 0, 0, 0), (.ireturn, 1, 0, 0)]]
def mk_51 : List (List mI) := [
  [(.aload 0, 0, 0, 0), (.getfield 2, 4, 0, 0), (.iload 1, 0, 0, 0), (.invokevirtual 87, 2, 9, 0), (.ifCond .ne 0, 1, 0, 0), (.aload 0, 0, 0, 0), (.sipush 1, 0, 0, 0), (.aload 0, 0, 0, 0), (.getfield 2, 4, 0, 0), (.getfield 0, 9, 2, 0), (.invokevirtual 39, 3, 4, 0), (.ireturn, 1, 0, 0)],
  [(.aload 0, 0, 0, 0), (.getfield 2, 4, 0, 0), (.invokevirtual 84, 1, 9, 0), (.sipush 1, 0, 0, 0), (.ireturn, 1, 0, 0)]]
def mk_52 : List (List mI) := [
  [(.aload 0, 0, 0, 0), (.getfield 2, 4, 0, 0), (.getfield 0, 9, 1, 0), (.sipush 2, 0, 0, 0), (.if_icmp .eq 0, 1, 0, 0), (.aload 0, 0, 0, 0), (.sipush 1, 0, 0, 0), (.aload 0, 0, 0, 0), (.getfield 2, 4, 0, 0), (.getfield 0, 9, 2, 0), (.invokevirtual 39, 3, 4, 0), (.ireturn, 1, 0, 0)],
  [(.aload 0, 0, 0, 0), (.getfield 2, 4, 0, 0), (.invokevirtual 85, 1, 9, 0), (.sipush 4, 0, 0, 0), (.if_icmp .le 0, 2, 0, 0), (.aload 0, 0, 0, 0), (.sipush 1, 0, 0, 0), (.aload 0, 0, 0, 0), (.getfield 2, 4, 0, 0), (.getfield 0, 9, 2, 0), (.sipush 4, 0, 0, 0), (.iadd, 0, 0, 0), (.invokevirtual 39, 3, 4, 0), (.ireturn, 1, 0, 0)],
  [(.aload 0, 0, 0, 0), (.getfield 2, 4, 0, 0), (.getfield 0, 9, 5, 0), (.iload 1, 0, 0, 0), (.if_icmp .lt 0, 3, 0, 0), (.aload 0, 0, 0, 0), (.getfield 2, 4, 0, 0), (.getfield 0, 9, 5, 0), (.iload 2, 0, 0, 0), (.if_icmp .le 0, 4, 0, 0)],
  [(.aload 0, 0, 0, 0), (.sipush 2, 0, 0, 0), (.aload 0, 0, 0, 0), (.getfield 2, 4, 0, 0), (.getfield 0, 9, 2, 0), (.invokevirtual 39, 3, 4, 0), (.ireturn, 1, 0, 0)],
  [(.sipush 1, 0, 0, 0), (.ireturn, 1, 0, 0)]]
def mk_53 : List (List mI) := [
  [(.aload 0, 0, 0, 0), (.iload 1, 0, 0, 0), (.invokevirtual 54, 2, 4, 0), (.ifCond .ne 0, 1, 0, 0), (.sipush 0, 0, 0, 0), (.ireturn, 1, 0, 0)],
  [(.sipush 0, 0, 0, 0), (.istore 2, 0, 0, 0)],
  [(.iload 2, 0, 0, 0), (.sipush 1600, 0, 0, 0), (.if_icmp .ge 0, 4, 0, 0), (.aload 0, 0, 0, 0), (.getfield 2, 4, 0, 0), (.sipush 18, 0, 0, 0), (.invokevirtual 86, 2, 9, 0), (.ifCond .eq 0, 4, 0, 0), (.aload 0, 0, 0, 0), (.getfield 2, 4, 0, 0), (.invokevirtual 84, 1, 9, 0), (.aload 0, 0, 0, 0), (.iload 1, 0, 0, 0), (.invokevirtual 54, 2, 4, 0), (.ifCond .ne 0, 3, 0, 0), (.sipush 0, 0, 0, 0), (.ireturn, 1, 0, 0)],
  [(.aload 0, 0, 0, 0), (.getfield 2, 4, 1, 0), (.getfield 2, 0, 3, 0), (.sipush 22, 0, 0, 0), (.sipush 0, 0, 0, 0), (.invokevirtual 68, 3, 5, 0), (.iinc 2 1, 0, 0, 0), (.goto 0, 2, 0, 0)],
  [(.sipush 1, 0, 0, 0), (.ireturn, 1, 0, 0)]]
def mk_54 : List (List mI) := [
  [(.aload 0, 0, 0, 0), (.iload 1, 0, 0, 0), (.invokevirtual 55, 2, 4, 0), (.ifCond .ne 0, 1, 0, 0), (.sipush 0, 0, 0, 0), (.ireturn, 1, 0, 0)],
  [(.sipush 0, 0, 0, 0), (.istore 2, 0, 0, 0)],
  [(.iload 2, 0, 0, 0), (.sipush 1600, 0, 0, 0), (.if_icmp .ge 0, 4, 0, 0), (.aload 0, 0, 0, 0), (.getfield 2, 4, 0, 0), (.sipush 19, 0, 0, 0), (.invokevirtual 86, 2, 9, 0), (.ifCond .eq 0, 4, 0, 0), (.aload 0, 0, 0, 0), (.getfield 2, 4, 0, 0), (.invokevirtual 84, 1, 9, 0), (.aload 0, 0, 0, 0), (.iload 1, 0, 0, 0), (.invokevirtual 55, 2, 4, 0), (.ifCond .ne 0, 3, 0, 0), (.sipush 0, 0, 0, 0), (.ireturn, 1, 0, 0)],
  [(.aload 0, 0, 0, 0), (.getfield 2, 4, 1, 0), (.getfield 2, 0, 3, 0), (.sipush 21, 0, 0, 0), (.sipush 0, 0, 0, 0), (.invokevirtual 68, 3, 5, 0), (.iinc 2 1, 0, 0, 0), (.goto 0, 2, 0, 0)],
  [(.sipush 1, 0, 0, 0), (.ireturn, 1, 0, 0)]]
def mk_55 : List (List mI) := [
  [(.aload 0, 0, 0, 0), (.getfield 2, 4, 0, 0), (.sipush 20, 0, 0, 0), (.invokevirtual 86, 2, 9, 0), (.ifCond .eq 0, 3, 0, 0), (.aload 0, 0, 0, 0), (.iload 1, 0, 0, 0), (.invokevirtual 60, 2, 4, 0), (.ifCond .eq 0, 1, 0, 0), (.aload 0, 0, 0, 0), (.iload 1, 0, 0, 0), (.sipush 1, 0, 0, 0), (.iadd, 0, 0, 0), (.invokevirtual 55, 2, 4, 0), (.ifCond .ne 0, 2, 0, 0)],
  [(.sipush 0, 0, 0, 0), (.ireturn, 1, 0, 0)],
  [(.aload 0, 0, 0, 0), (.getfield 2, 4, 1, 0), (.getfield 2, 0, 3, 0), (.sipush 11, 0, 0, 0), (.sipush 0, 0, 0, 0), (.invokevirtual 68, 3, 5, 0), (.sipush 1, 0, 0, 0), (.ireturn, 1, 0, 0)],
  [(.aload 0, 0, 0, 0), (.getfield 2, 4, 0, 0), (.sipush 91, 0, 0, 0), (.invokevirtual 87, 2, 9, 0), (.ifCond .eq 0, 6, 0, 0), (.aload 0, 0, 0, 0), (.iload 1, 0, 0, 0), (.invokevirtual 60, 2, 4, 0), (.ifCond .eq 0, 4, 0, 0), (.aload 0, 0, 0, 0), (.iload 1, 0, 0, 0), (.sipush 1, 0, 0, 0), (.iadd, 0, 0, 0), (.invokevirtual 53, 2, 4, 0), (.ifCond .eq 0, 4, 0, 0), (.aload 0, 0, 0, 0), (.sipush 93, 0, 0, 0), (.invokevirtual 51, 2, 4, 0), (.ifCond .eq 0, 4, 0, 0), (.sipush 1, 0, 0, 0), (.goto 0, 5, 0, 0)],
  [(.sipush 0, 0, 0, 0)],
  [(.ireturn, 1, 0, 0)],
  [(.aload 0, 0, 0, 0), (.getfield 2, 4, 0, 0), (.sipush 21, 0, 0, 0), (.invokevirtual 86, 2, 9, 0), (.ifCond .eq 0, 7, 0, 0), (.aload 0, 0, 0, 0), (.getfield 2, 4, 1, 0), (.getfield 2, 0, 3, 0), (.sipush 0, 0, 0, 0), (.sipush 1, 0, 0, 0), (.invokevirtual 68, 3, 5, 0), (.aload 0, 0, 0, 0), (.getfield 2, 4, 0, 0), (.invokevirtual 84, 1, 9, 0), (.sipush 1, 0, 0, 0), (.ireturn, 1, 0, 0)],
  [(.aload 0, 0, 0, 0), (.iload 1, 0, 0, 0), (.invokevirtual 56, 2, 4, 0), (.ifCond .ne 0, 8, 0, 0), (.sipush 0, 0, 0, 0), (.ireturn, 1, 0, 0)],
  [(.aload 0, 0, 0, 0), (.invokevirtual 61, 1, 4, 0), (.istore 2, 0, 0, 0), (.iload 2, 0, 0, 0), (.sipush (-1), 0, 0, 0), (.if_icmp .ne 0, 9, 0, 0), (.aload 0, 0, 0, 0), (.sipush 1, 0, 0, 0), (.aload 0, 0, 0, 0), (.getfield 2, 4, 0, 0), (.getfield 0, 9, 2, 0), (.invokevirtual 39, 3, 4, 0), (.ireturn, 1, 0, 0)],
  [(.aload 0, 0, 0, 0), (.getfield 2, 4, 0, 0), (.invokevirtual 84, 1, 9, 0), (.aload 0, 0, 0, 0), (.iload 1, 0, 0, 0), (.invokevirtual 56, 2, 4, 0), (.ifCond .ne 0, 10, 0, 0), (.sipush 0, 0, 0, 0), (.ireturn, 1, 0, 0)],
  [(.aload 0, 0, 0, 0), (.getfield 2, 4, 1, 0), (.getfield 2, 0, 3, 0), (.iload 2, 0, 0, 0), (.sipush 0, 0, 0, 0), (.invokevirtual 68, 3, 5, 0), (.sipush 1, 0, 0, 0), (.ireturn, 1, 0, 0)]]
def mk_56 : List (List mI) := [
  [(.aload 0, 0, 0, 0), (.iload 1, 0, 0, 0), (.invokevirtual 57, 2, 4, 0), (.ifCond .ne 0, 1, 0, 0), (.sipush 0, 0, 0, 0), (.ireturn, 1, 0, 0)],
  [(.sipush 0, 0, 0, 0), (.istore 2, 0, 0, 0)],
  [(.iload 2, 0, 0, 0), (.sipush 1600, 0, 0, 0), (.if_icmp .ge 0, 7, 0, 0), (.aload 0, 0, 0, 0), (.getfield 2, 4, 0, 0), (.sipush 43, 0, 0, 0), (.invokevirtual 87, 2, 9, 0), (.ifCond .ne 0, 3, 0, 0), (.aload 0, 0, 0, 0), (.getfield 2, 4, 0, 0), (.sipush 45, 0, 0, 0), (.invokevirtual 87, 2, 9, 0), (.ifCond .eq 0, 7, 0, 0)],
  [(.aload 0, 0, 0, 0), (.getfield 2, 4, 0, 0), (.sipush 43, 0, 0, 0), (.invokevirtual 87, 2, 9, 0), (.ifCond .eq 0, 4, 0, 0), (.sipush 12, 0, 0, 0), (.goto 0, 5, 0, 0)],
  [(.sipush 13, 0, 0, 0)],
  [(.istore 3, 0, 0, 0), (.aload 0, 0, 0, 0), (.getfield 2, 4, 0, 0), (.invokevirtual 84, 1, 9, 0), (.aload 0, 0, 0, 0), (.iload 1, 0, 0, 0), (.invokevirtual 57, 2, 4, 0), (.ifCond .ne 0, 6, 0, 0), (.sipush 0, 0, 0, 0), (.ireturn, 1, 0, 0)],
  [(.aload 0, 0, 0, 0), (.getfield 2, 4, 1, 0), (.getfield 2, 0, 3, 0), (.iload 3, 0, 0, 0), (.sipush 0, 0, 0, 0), (.invokevirtual 68, 3, 5, 0), (.iinc 2 1, 0, 0, 0), (.goto 0, 2, 0, 0)],
  [(.sipush 1, 0, 0, 0), (.ireturn, 1, 0, 0)]]
def mk_57 : List (List mI) := [
  [(.aload 0, 0, 0, 0), (.iload 1, 0, 0, 0), (.invokevirtual 58, 2, 4, 0), (.ifCond .ne 0, 1, 0, 0), (.sipush 0, 0, 0, 0), (.ireturn, 1, 0, 0)],
  [(.sipush 0, 0, 0, 0), (.istore 2, 0, 0, 0)],
  [(.iload 2, 0, 0, 0), (.sipush 1600, 0, 0, 0), (.if_icmp .ge 0, 7, 0, 0), (.aload 0, 0, 0, 0), (.getfield 2, 4, 0, 0), (.sipush 42, 0, 0, 0), (.invokevirtual 87, 2, 9, 0), (.ifCond .ne 0, 3, 0, 0), (.aload 0, 0, 0, 0), (.getfield 2, 4, 0, 0), (.sipush 47, 0, 0, 0), (.invokevirtual 87, 2, 9, 0), (.ifCond .eq 0, 7, 0, 0)],
  [(.aload 0, 0, 0, 0), (.getfield 2, 4, 0, 0), (.sipush 42, 0, 0, 0), (.invokevirtual 87, 2, 9, 0), (.ifCond .eq 0, 4, 0, 0), (.sipush 14, 0, 0, 0), (.goto 0, 5, 0, 0)],
  [(.sipush 15, 0, 0, 0)],
  [(.istore 3, 0, 0, 0), (.aload 0, 0, 0, 0), (.getfield 2, 4, 0, 0), (.invokevirtual 84, 1, 9, 0), (.aload 0, 0, 0, 0), (.iload 1, 0, 0, 0), (.invokevirtual 58, 2, 4, 0), (.ifCond .ne 0, 6, 0, 0), (.sipush 0, 0, 0, 0), (.ireturn, 1, 0, 0)],
  [(.aload 0, 0, 0, 0), (.getfield 2, 4, 1, 0), (.getfield 2, 0, 3, 0), (.iload 3, 0, 0, 0), (.sipush 0, 0, 0, 0), (.invokevirtual 68, 3, 5, 0), (.iinc 2 1, 0, 0, 0), (.goto 0, 2, 0, 0)],
  [(.sipush 1, 0, 0, 0), (.ireturn, 1, 0, 0)]]
def mk_58 : List (List mI) := [
  [(.aload 0, 0, 0, 0), (.getfield 2, 4, 0, 0), (.getfield 0, 9, 1, 0), (.sipush 2, 0, 0, 0), (.if_icmp .ne 0, 2, 0, 0), (.aload 0, 0, 0, 0), (.sipush 0, 0, 0, 0), (.sipush 1000000, 0, 0, 0), (.invokevirtual 52, 3, 4, 0), (.ifCond .ne 0, 1, 0, 0), (.sipush 0, 0, 0, 0), (.ireturn, 1, 0, 0)],
  [(.aload 0, 0, 0, 0), (.getfield 2, 4, 1, 0), (.getfield 2, 0, 3, 0), (.sipush 0, 0, 0, 0), (.aload 0, 0, 0, 0), (.getfield 2, 4, 0, 0), (.getfield 0, 9, 5, 0), (.invokevirtual 68, 3, 5, 0), (.aload 0, 0, 0, 0), (.getfield 2, 4, 0, 0), (.invokevirtual 84, 1, 9, 0), (.sipush 1, 0, 0, 0), (.ireturn, 1, 0, 0)],
  [(.aload 0, 0, 0, 0), (.getfield 2, 4, 0, 0), (.sipush 40, 0, 0, 0), (.invokevirtual 87, 2, 9, 0), (.ifCond .eq 0, 5, 0, 0), (.aload 0, 0, 0, 0), (.iload 1, 0, 0, 0), (.invokevirtual 60, 2, 4, 0), (.ifCond .eq 0, 3, 0, 0), (.aload 0, 0, 0, 0), (.iload 1, 0, 0, 0), (.sipush 1, 0, 0, 0), (.iadd, 0, 0, 0), (.invokevirtual 56, 2, 4, 0), (.ifCond .eq 0, 3, 0, 0), (.aload 0, 0, 0, 0), (.sipush 41, 0, 0, 0), (.invokevirtual 51, 2, 4, 0), (.ifCond .eq 0, 3, 0, 0), (.sipush 1, 0, 0, 0), (.goto 0, 4, 0, 0)],
  [(.sipush 0, 0, 0, 0)],
  [(.ireturn, 1, 0, 0)],
  [(.aload 0, 0, 0, 0), (.getfield 2, 4, 0, 0), (.sipush 22, 0, 0, 0), (.invokevirtual 86, 2, 9, 0), (.ifCond .eq 0, 6, 0, 0), (.aload 0, 0, 0, 0), (.iload 1, 0, 0, 0), (.sipush 16, 0, 0, 0), (.invokevirtual 59, 3, 4, 0), (.ireturn, 1, 0, 0)],
  [(.aload 0, 0, 0, 0), (.getfield 2, 4, 0, 0), (.sipush 23, 0, 0, 0), (.invokevirtual 86, 2, 9, 0), (.ifCond .eq 0, 7, 0, 0), (.aload 0, 0, 0, 0), (.iload 1, 0, 0, 0), (.sipush 17, 0, 0, 0), (.invokevirtual 59, 3, 4, 0), (.ireturn, 1, 0, 0)],
  [(.aload 0, 0, 0, 0), (.getfield 2, 4, 0, 0), (.sipush 2, 0, 0, 0), (.invokevirtual 86, 2, 9, 0), (.ifCond .eq 0, 10, 0, 0), (.aload 0, 0, 0, 0), (.getfield 0, 4, 5, 0), (.sipush 3, 0, 0, 0), (.if_icmp .ne 0, 10, 0, 0), (.aload 0, 0, 0, 0), (.iload 1, 0, 0, 0), (.invokevirtual 60, 2, 4, 0), (.ifCond .eq 0, 8, 0, 0), (.aload 0, 0, 0, 0), (.iload 1, 0, 0, 0), (.sipush 1, 0, 0, 0), (.iadd, 0, 0, 0), (.invokevirtual 58, 2, 4, 0), (.ifCond .ne 0, 9, 0, 0)],
  [(.sipush 0, 0, 0, 0), (.ireturn, 1, 0, 0)],
  [(.aload 0, 0, 0, 0), (.getfield 2, 4, 1, 0), (.getfield 2, 0, 3, 0), (.sipush 10, 0, 0, 0), (.sipush 0, 0, 0, 0), (.invokevirtual 68, 3, 5, 0), (.sipush 1, 0, 0, 0), (.ireturn, 1, 0, 0)],
  [(.aload 0, 0, 0, 0), (.invokevirtual 62, 1, 4, 0), (.istore 2, 0, 0, 0), (.iload 2, 0, 0, 0), (.sipush (-1), 0, 0, 0), (.if_icmp .ne 0, 11, 0, 0), (.aload 0, 0, 0, 0), (.sipush 1, 0, 0, 0), (.aload 0, 0, 0, 0), (.getfield 2, 4, 0, 0), (.getfield 0, 9, 2, 0), (.invokevirtual 39, 3, 4, 0), (.ireturn, 1, 0, 0)],
  [(.aload 0, 0, 0, 0), (.getfield 2, 4, 1, 0), (.getfield 2, 0, 3, 0), (.iload 2, 0, 0, 0), (.sipush 0, 0, 0, 0), (.invokevirtual 68, 3, 5, 0), (.aload 0, 0, 0, 0), (.getfield 2, 4, 0, 0), (.invokevirtual 84, 1, 9, 0), (.sipush 1, 0, 0, 0), (.ireturn, 1, 0, 0)]]
def mk_59 : List (List mI) := [
  [(.aload 0, 0, 0, 0), (.getfield 2, 4, 0, 0), (.invokevirtual 84, 1, 9, 0), (.aload 0, 0, 0, 0), (.getfield 2, 4, 0, 0), (.sipush 40, 0, 0, 0), (.invokevirtual 87, 2, 9, 0), (.ifCond .ne 0, 1, 0, 0), (.aload 0, 0, 0, 0), (.sipush 1, 0, 0, 0), (.aload 0, 0, 0, 0), (.getfield 2, 4, 0, 0), (.getfield 0, 9, 2, 0), (.invokevirtual 39, 3, 4, 0), (.ireturn, 1, 0, 0)],
  [(.aload 0, 0, 0, 0), (.iload 1, 0, 0, 0), (.invokevirtual 60, 2, 4, 0), (.ifCond .eq 0, 2, 0, 0), (.aload 0, 0, 0, 0), (.iload 1, 0, 0, 0), (.sipush 1, 0, 0, 0), (.iadd, 0, 0, 0), (.invokevirtual 56, 2, 4, 0), (.ifCond .eq 0, 2, 0, 0), (.aload 0, 0, 0, 0), (.sipush 44, 0, 0, 0), (.invokevirtual 51, 2, 4, 0), (.ifCond .ne 0, 3, 0, 0)],
  [(.sipush 0, 0, 0, 0), (.ireturn, 1, 0, 0)],
  [(.aload 0, 0, 0, 0), (.iload 1, 0, 0, 0), (.sipush 1, 0, 0, 0), (.iadd, 0, 0, 0), (.invokevirtual 56, 2, 4, 0), (.ifCond .eq 0, 4, 0, 0), (.aload 0, 0, 0, 0), (.sipush 41, 0, 0, 0), (.invokevirtual 51, 2, 4, 0), (.ifCond .ne 0, 5, 0, 0)],
  [(.sipush 0, 0, 0, 0), (.ireturn, 1, 0, 0)],
  [(.aload 0, 0, 0, 0), (.getfield 2, 4, 1, 0), (.getfield 2, 0, 3, 0), (.iload 2, 0, 0, 0), (.sipush 0, 0, 0, 0), (.invokevirtual 68, 3, 5, 0), (.sipush 1, 0, 0, 0), (.ireturn, 1, 0, 0)]]
def mk_60 : List (List mI) := [
  [(.iload 1, 0, 0, 0), (.sipush 6, 0, 0, 0), (.if_icmp .lt 0, 1, 0, 0), (.aload 0, 0, 0, 0), (.sipush 4, 0, 0, 0), (.aload 0, 0, 0, 0), (.getfield 2, 4, 0, 0), (.getfield 0, 9, 2, 0), (.invokevirtual 39, 3, 4, 0), (.ireturn, 1, 0, 0)],
  [(.aload 0, 0, 0, 0), (.getfield 2, 4, 0, 0), (.invokevirtual 84, 1, 9, 0), (.sipush 1, 0, 0, 0), (.ireturn, 1, 0, 0)]]
def mk_61 : List (List mI) := [
  [(.aload 0, 0, 0, 0), (.getfield 2, 4, 0, 0), (.sipush 60, 0, 0, 0), (.invokevirtual 87, 2, 9, 0), (.ifCond .eq 0, 1, 0, 0), (.sipush 18, 0, 0, 0), (.ireturn, 0, 0, 0)],
  [(.aload 0, 0, 0, 0), (.getfield 2, 4, 0, 0), (.sipush 62, 0, 0, 0), (.invokevirtual 87, 2, 9, 0), (.ifCond .eq 0, 2, 0, 0), (.sipush 19, 0, 0, 0), (.ireturn, 0, 0, 0)],
  [(.aload 0, 0, 0, 0), (.getfield 2, 4, 0, 0), (.sipush 61, 0, 0, 0), (.invokevirtual 87, 2, 9, 0), (.ifCond .eq 0, 3, 0, 0), (.sipush 20, 0, 0, 0), (.goto 0, 4, 0, 0)],
  [(.sipush (-1), 0, 0, 0)],
  [(.ireturn, 0, 0, 0)]]
def mk_62 : List (List mI) := [
  [(.aload 0, 0, 0, 0), (.getfield 2, 4, 0, 0), (.getfield 0, 9, 1, 0), (.sipush 1, 0, 0, 0), (.if_icmp .ne 0, 1, 0, 0), (.aload 0, 0, 0, 0), (.getfield 2, 4, 0, 0), (.getfield 0, 9, 4, 0), (.goto 0, 2, 0, 0)],
  [(.sipush (-1), 0, 0, 0)],
  [(.tableswitch 20 1 15 #[3, 20, 14, 17, 20, 20, 20, 20, 20, 4, 5, 6, 7, 8, 11], 0, 0, 0)],
  [(.sipush 1, 0, 0, 0), (.ireturn, 0, 0, 0)],
  [(.sipush 2, 0, 0, 0), (.ireturn, 0, 0, 0)],
  [(.sipush 3, 0, 0, 0), (.ireturn, 0, 0, 0)],
  [(.sipush 4, 0, 0, 0), (.ireturn, 0, 0, 0)],
  [(.sipush 5, 0, 0, 0), (.ireturn, 0, 0, 0)],
  [(.aload 0, 0, 0, 0), (.getfield 0, 4, 5, 0), (.sipush 2, 0, 0, 0), (.if_icmp .lt 0, 9, 0, 0), (.sipush 6, 0, 0, 0), (.goto 0, 10, 0, 0)],
  [(.sipush (-1), 0, 0, 0)],
  [(.ireturn, 0, 0, 0)],
  [(.aload 0, 0, 0, 0), (.getfield 0, 4, 5, 0), (.sipush 3, 0, 0, 0), (.if_icmp .ne 0, 12, 0, 0), (.sipush 7, 0, 0, 0), (.goto 0, 13, 0, 0)],
  [(.sipush (-1), 0, 0, 0)],
  [(.ireturn, 0, 0, 0)],
  [(.aload 0, 0, 0, 0), (.getfield 0, 4, 5, 0), (.sipush 3, 0, 0, 0), (.if_icmp .ne 0, 15, 0, 0), (.sipush 8, 0, 0, 0), (.goto 0, 16, 0, 0)],
  [(.sipush (-1), 0, 0, 0)],
  [(.ireturn, 0, 0, 0)],
  [(.aload 0, 0, 0, 0), (.getfield 0, 4, 5, 0), (.sipush 3, 0, 0, 0), (.if_icmp .ne 0, 18, 0, 0), (.sipush 9, 0, 0, 0), (.goto 0, 19, 0, 0)],
  [(.sipush (-1), 0, 0, 0)],
  [(.ireturn, 0, 0, 0)],
  [(.sipush (-1), 0, 0, 0), (.ireturn, 0, 0, 0)]]
def mk_63 : List (List mI) := [
  [(.aload 0, 0, 0, 0), (.monitorexit, 0, 0, 0), (.aload 0, 0, 0, 0), (.sipush 1603, 0, 0, 0), (.newarray .int, 20, 0, 0), (.putfield 2, 5, 0, 0), (.aload 0, 0, 0, 0), (.sipush 4, 0, 0, 0), (.newarray .int, 20, 0, 0), (.putfield 2, 5, 1, 0), (.aload 0, 0, 0, 0), (.sipush 4, 0, 0, 0), (.newarray .int, 20, 0, 0), (.putfield 2, 5, 2, 0), (.aload 0, 0, 0, 0), (.sipush 0, 0, 0, 0), (.putfield 0, 5, 3, 0), (.return_, 0, 0, 0)]]
def mk_64 : List (List mI) := [
  [(.aload 0, 0, 0, 0), (.sipush 0, 0, 0, 0), (.putfield 0, 5, 3, 0), (.aload 0, 0, 0, 0), (.getfield 2, 5, 1, 0), (.sipush 0, 0, 0, 0), (.invokestatic 280, 2, 0, 0), (.aload 0, 0, 0, 0), (.getfield 2, 5, 2, 0), (.sipush 0, 0, 0, 0), (.invokestatic 280, 2, 0, 0), (.return_, 0, 0, 0)]]
def mk_65 : List (List mI) := [
  [(.aload 0, 0, 0, 0), (.getfield 2, 5, 1, 0), (.iload 1, 0, 0, 0), (.aload 0, 0, 0, 0), (.getfield 0, 5, 3, 0), (.iastore, 0, 0, 0), (.return_, 0, 0, 0)]]
def mk_66 : List (List mI) := [
  [(.aload 0, 0, 0, 0), (.getfield 2, 5, 2, 0), (.iload 1, 0, 0, 0), (.aload 0, 0, 0, 0), (.getfield 0, 5, 3, 0), (.iastore, 0, 0, 0), (.return_, 0, 0, 0)]]
def mk_67 : List (List mI) := [
  [(.aload 0, 0, 0, 0), (.getfield 2, 5, 2, 0), (.iload 1, 0, 0, 0), (.iaload, 0, 0, 0), (.aload 0, 0, 0, 0), (.getfield 2, 5, 1, 0), (.iload 1, 0, 0, 0), (.iaload, 0, 0, 0), (.if_icmp .le 0, 1, 0, 0), (.sipush 1, 0, 0, 0), (.goto 0, 2, 0, 0)],
  [(.sipush 0, 0, 0, 0)],
  [(.ireturn, 1, 0, 0)]]
def mk_68 : List (List mI) := [
  [(.aload 0, 0, 0, 0), (.getfield 0, 5, 3, 0), (.aload 0, 0, 0, 0), (.getfield 2, 5, 0, 0), (.arraylength, 0, 0, 0), (.if_icmp .ge 0, 1, 0, 0), (.aload 0, 0, 0, 0), (.getfield 2, 5, 0, 0), (.aload 0, 0, 0, 0), (.getfield 0, 5, 3, 0), (.iload 2, 0, 0, 0), (.sipush 5, 0, 0, 0), (.ishl, 0, 0, 0), (.iload 1, 0, 0, 0), (.ior, 0, 0, 0), (.iastore, 0, 0, 0), (.aload 0, 0, 0, 0), (.dup, 0, 0, 0), (.getfield 0, 5, 3, 0), (.sipush 1, 0, 0, 0), (.iadd, 0, 0, 0), (.putfield 0, 5, 3, 0)],
  [(.return_, 0, 0, 0)]]
def mk_69 : List (List mI) := [
  [(.aload 0, 0, 0, 0), (.iload 1, 0, 0, 0), (.invokevirtual 67, 2, 5, 0), (.ifCond .ne 0, 1, 0, 0), (.aload 0, 0, 0, 0), (.iload 1, 0, 0, 0), (.invokevirtual 65, 2, 5, 0), (.aload 0, 0, 0, 0), (.iload 2, 0, 0, 0), (.sipush 0, 0, 0, 0), (.invokevirtual 68, 3, 5, 0), (.aload 0, 0, 0, 0), (.iload 1, 0, 0, 0), (.invokevirtual 66, 2, 5, 0)],
  [(.return_, 0, 0, 0)]]
def mk_70 : List (List mI) := [
  [(.aload 0, 0, 0, 0), (.aload 1, 0, 0, 0), (.getfield 0, 5, 3, 0), (.putfield 0, 5, 3, 0), (.aload 1, 0, 0, 0), (.getfield 2, 5, 0, 0), (.sipush 0, 0, 0, 0), (.aload 0, 0, 0, 0), (.getfield 2, 5, 0, 0), (.sipush 0, 0, 0, 0), (.aload 1, 0, 0, 0), (.getfield 0, 5, 3, 0), (.invokedynamic 0, 0, 0, 0), (.aload 1, 0, 0, 0), (.getfield 2, 5, 1, 0), (.sipush 0, 0, 0, 0), (.aload 0, 0, 0, 0), (.getfield 2, 5, 1, 0), (.sipush 0, 0, 0, 0), (.sipush 4, 0, 0, 0), (.invokedynamic 0, 0, 0, 0), (.aload 1, 0, 0, 0), (.getfield 2, 5, 2, 0), (.sipush 0, 0, 0, 0), (.aload 0, 0, 0, 0), (.getfield 2, 5, 2, 0), (.sipush 0, 0, 0, 0), (.sipush 4, 0, 0, 0), (.invokedynamic 0, 0, 0, 0), (.return_, 0, 0, 0)]]
def mk_71 : List (List mI) := [
  [(.aload 0, 0, 0, 0), (.monitorexit, 0, 0, 0), (.aload 0, 0, 0, 0), (.sipush 48, 0, 0, 0), (.newarray .int, 20, 0, 0), (.putfield 2, 6, 0, 0), (.aload 0, 0, 0, 0), (.sipush 0, 0, 0, 0), (.putfield 0, 6, 1, 0), (.return_, 0, 0, 0)]]
def mk_72 : List (List mI) := [
  [(.aload 1, 0, 0, 0), (.getfield 0, 8, 1, 0), (.sipush 3, 0, 0, 0), (.if_icmp .lt 0, 1, 0, 0), (.aload 1, 0, 0, 0), (.getfield 0, 8, 1, 0), (.aload 0, 0, 0, 0), (.getfield 2, 6, 0, 0), (.arraylength, 0, 0, 0), (.if_icmp .gt 0, 1, 0, 0), (.aload 1, 0, 0, 0), (.getfield 0, 8, 1, 0), (.sipush 3, 0, 0, 0), (.irem, 0, 0, 0), (.ifCond .eq 0, 2, 0, 0)],
  [(.sipush 0, 0, 0, 0), (.ireturn, 1, 0, 0)],
  [(.sipush 0, 0, 0, 0), (.istore 3, 0, 0, 0)],
  [(.iload 3, 0, 0, 0), (.aload 1, 0, 0, 0), (.getfield 0, 8, 1, 0), (.if_icmp .ge 0, 6, 0, 0), (.aload 1, 0, 0, 0), (.getfield 2, 8, 0, 0), (.iload 3, 0, 0, 0), (.iaload, 0, 0, 0), (.sipush 30, 0, 0, 0), (.if_icmp .gt 0, 4, 0, 0), (.aload 1, 0, 0, 0), (.getfield 2, 8, 0, 0), (.iload 3, 0, 0, 0), (.sipush 1, 0, 0, 0), (.iadd, 0, 0, 0), (.iaload, 0, 0, 0), (.iload 2, 0, 0, 0), (.if_icmp .ge 0, 4, 0, 0), (.aload 1, 0, 0, 0), (.getfield 2, 8, 0, 0), (.iload 3, 0, 0, 0), (.sipush 2, 0, 0, 0), (.iadd, 0, 0, 0), (.iaload, 0, 0, 0), (.sipush 20, 0, 0, 0), (.if_icmp .le 0, 5, 0, 0)],
  [(.sipush 0, 0, 0, 0), (.ireturn, 1, 0, 0)],
  [(.iinc 3 3, 0, 0, 0), (.goto 0, 3, 0, 0)],
  [(.sipush 1, 0, 0, 0), (.ireturn, 1, 0, 0)]]
def mk_73 : List (List mI) := [
  [(.aload 1, 0, 0, 0), (.getfield 0, 8, 1, 0), (.aload 0, 0, 0, 0), (.getfield 2, 6, 0, 0), (.arraylength, 0, 0, 0), (.invokestatic 277, 2, 0, 0), (.istore 2, 0, 0, 0), (.aload 1, 0, 0, 0), (.getfield 2, 8, 0, 0), (.sipush 0, 0, 0, 0), (.aload 0, 0, 0, 0), (.getfield 2, 6, 0, 0), (.sipush 0, 0, 0, 0), (.iload 2, 0, 0, 0), (.invokedynamic 0, 0, 0, 0), (.aload 0, 0, 0, 0), (.iload 2, 0, 0, 0), (.sipush 3, 0, 0, 0), (.idiv, 0, 0, 0), (.putfield 0, 6, 1, 0), (.return_, 0, 0, 0)]]
def mk_74 : List (List mI) := [
  [(.sipush 0, 0, 0, 0), (.istore 1, 0, 0, 0), (.sipush 0, 0, 0, 0), (.istore 2, 0, 0, 0)],
  [(.iload 2, 0, 0, 0), (.aload 0, 0, 0, 0), (.getfield 0, 6, 1, 0), (.if_icmp .ge 0, 2, 0, 0), (.iload 1, 0, 0, 0), (.aload 0, 0, 0, 0), (.getfield 2, 6, 0, 0), (.sipush 3, 0, 0, 0), (.iload 2, 0, 0, 0), (.imul, 0, 0, 0), (.iaload, 0, 0, 0), (.invokestatic 275, 2, 0, 0), (.istore 1, 0, 0, 0), (.iinc 2 1, 0, 0, 0), (.goto 0, 1, 0, 0)],
  [(.iload 1, 0, 0, 0), (.ireturn, 0, 0, 0)]]
def mk_75 : List (List mI) := [
  [(.sipush 0, 0, 0, 0), (.istore 3, 0, 0, 0)],
  [(.iload 3, 0, 0, 0), (.aload 0, 0, 0, 0), (.getfield 0, 6, 1, 0), (.if_icmp .ge 0, 3, 0, 0), (.aload 0, 0, 0, 0), (.getfield 2, 6, 0, 0), (.sipush 3, 0, 0, 0), (.iload 3, 0, 0, 0), (.imul, 0, 0, 0), (.iaload, 0, 0, 0), (.iload 1, 0, 0, 0), (.if_icmp .ne 0, 2, 0, 0), (.aload 2, 0, 0, 0), (.getfield 2, 7, 0, 0), (.aload 0, 0, 0, 0), (.getfield 2, 6, 0, 0), (.sipush 3, 0, 0, 0), (.iload 3, 0, 0, 0), (.imul, 0, 0, 0), (.sipush 1, 0, 0, 0), (.iadd, 0, 0, 0), (.iaload, 0, 0, 0), (.iaload, 0, 0, 0), (.aload 0, 0, 0, 0), (.getfield 2, 6, 0, 0), (.sipush 3, 0, 0, 0), (.iload 3, 0, 0, 0), (.imul, 0, 0, 0), (.sipush 2, 0, 0, 0), (.iadd, 0, 0, 0), (.iaload, 0, 0, 0), (.if_icmp .eq 0, 2, 0, 0), (.sipush 0, 0, 0, 0), (.ireturn, 1, 0, 0)],
  [(.iinc 3 1, 0, 0, 0), (.goto 0, 1, 0, 0)],
  [(.sipush 1, 0, 0, 0), (.ireturn, 1, 0, 0)]]
def mk_76 : List (List mI) := [
  [(.aload 0, 0, 0, 0), (.monitorexit, 0, 0, 0), (.aload 0, 0, 0, 0), (.sipush 7, 0, 0, 0), (.newarray .int, 20, 0, 0), (.putfield 2, 7, 0, 0), (.aload 0, 0, 0, 0), (.sipush 7, 0, 0, 0), (.newarray .int, 20, 0, 0), (.putfield 2, 7, 1, 0), (.aload 0, 0, 0, 0), (.sipush 0, 0, 0, 0), (.putfield 0, 7, 2, 0), (.aload 0, 0, 0, 0), (.sipush 0, 0, 0, 0), (.putfield 0, 7, 3, 0), (.aload 0, 0, 0, 0), (.sipush 0, 0, 0, 0), (.putfield 0, 7, 4, 0), (.aload 0, 0, 0, 0), (.getfield 2, 7, 1, 0), (.sipush 255, 0, 0, 0), (.invokestatic 280, 2, 0, 0), (.return_, 0, 0, 0)]]
def mk_77 : List (List mI) := [
  [(.aload 1, 0, 0, 0), (.getfield 2, 0, 1, 0), (.sipush 0, 0, 0, 0), (.aload 0, 0, 0, 0), (.getfield 2, 7, 0, 0), (.sipush 0, 0, 0, 0), (.sipush 7, 0, 0, 0), (.invokedynamic 0, 0, 0, 0), (.aload 0, 0, 0, 0), (.getfield 2, 7, 1, 0), (.sipush 255, 0, 0, 0), (.invokestatic 280, 2, 0, 0), (.aload 0, 0, 0, 0), (.sipush 0, 0, 0, 0), (.putfield 0, 7, 2, 0), (.aload 0, 0, 0, 0), (.aload 1, 0, 0, 0), (.getfield 0, 0, 6, 0), (.putfield 0, 7, 3, 0), (.aload 0, 0, 0, 0), (.aload 1, 0, 0, 0), (.getfield 0, 0, 7, 0), (.putfield 0, 7, 4, 0), (.return_, 0, 0, 0)]]
def mk_78 : List (List mI) := [
  [(.aload 1, 0, 0, 0), (.getfield 2, 7, 0, 0), (.sipush 0, 0, 0, 0), (.aload 0, 0, 0, 0), (.getfield 2, 7, 0, 0), (.sipush 0, 0, 0, 0), (.sipush 7, 0, 0, 0), (.invokedynamic 0, 0, 0, 0), (.aload 1, 0, 0, 0), (.getfield 2, 7, 1, 0), (.sipush 0, 0, 0, 0), (.aload 0, 0, 0, 0), (.getfield 2, 7, 1, 0), (.sipush 0, 0, 0, 0), (.sipush 7, 0, 0, 0), (.invokedynamic 0, 0, 0, 0), (.aload 0, 0, 0, 0), (.aload 1, 0, 0, 0), (.getfield 0, 7, 2, 0), (.putfield 0, 7, 2, 0), (.aload 0, 0, 0, 0), (.aload 1, 0, 0, 0), (.getfield 0, 7, 3, 0), (.putfield 0, 7, 3, 0), (.aload 0, 0, 0, 0), (.aload 1, 0, 0, 0), (.getfield 0, 7, 4, 0), (.putfield 0, 7, 4, 0), (.return_, 0, 0, 0)]]
def mk_79 : List (List mI) := [
  [(.sipush 0, 0, 0, 0), (.istore 2, 0, 0, 0), (.sipush 0, 0, 0, 0), (.istore 3, 0, 0, 0)],
  [(.iload 3, 0, 0, 0), (.iload 1, 0, 0, 0), (.if_icmp .ge 0, 2, 0, 0), (.iload 3, 0, 0, 0), (.aload 0, 0, 0, 0), (.getfield 2, 7, 0, 0), (.arraylength, 0, 0, 0), (.if_icmp .ge 0, 2, 0, 0), (.iload 2, 0, 0, 0), (.aload 0, 0, 0, 0), (.getfield 2, 7, 0, 0), (.iload 3, 0, 0, 0), (.iaload, 0, 0, 0), (.iadd, 0, 0, 0), (.istore 2, 0, 0, 0), (.iinc 3 1, 0, 0, 0), (.goto 0, 1, 0, 0)],
  [(.iload 2, 0, 0, 0), (.ireturn, 0, 0, 0)]]
def mk_80 : List (List mI) := [
  [(.aload 0, 0, 0, 0), (.monitorexit, 0, 0, 0), (.aload 0, 0, 0, 0), (.sipush 1600, 0, 0, 0), (.newarray .int, 20, 0, 0), (.putfield 2, 8, 0, 0), (.aload 0, 0, 0, 0), (.sipush 0, 0, 0, 0), (.putfield 0, 8, 1, 0), (.return_, 0, 0, 0)]]
def mk_81 : List (List mI) := [
  [(.sipush 24, 0, 0, 0), (.istore 2, 0, 0, 0)],
  [(.iload 2, 0, 0, 0), (.ifCond .lt 0, 3, 0, 0), (.aload 0, 0, 0, 0), (.getfield 0, 8, 1, 0), (.aload 0, 0, 0, 0), (.getfield 2, 8, 0, 0), (.arraylength, 0, 0, 0), (.if_icmp .ge 0, 2, 0, 0), (.aload 0, 0, 0, 0), (.getfield 2, 8, 0, 0), (.aload 0, 0, 0, 0), (.getfield 0, 8, 1, 0), (.iload 1, 0, 0, 0), (.iload 2, 0, 0, 0), (.iushr, 0, 0, 0), (.sipush 255, 0, 0, 0), (.iand, 0, 0, 0), (.iastore, 0, 0, 0), (.aload 0, 0, 0, 0), (.dup, 0, 0, 0), (.getfield 0, 8, 1, 0), (.sipush 1, 0, 0, 0), (.iadd, 0, 0, 0), (.putfield 0, 8, 1, 0)],
  [(.iinc 2 (-8), 0, 0, 0), (.goto 0, 1, 0, 0)],
  [(.return_, 0, 0, 0)]]
def mk_82 : List (List mI) := [
  [(.aload 0, 0, 0, 0), (.monitorexit, 0, 0, 0), (.aload 0, 0, 0, 0), (.sipush 0, 0, 0, 0), (.putfield 0, 9, 1, 0), (.aload 0, 0, 0, 0), (.sipush 0, 0, 0, 0), (.putfield 0, 9, 2, 0), (.aload 0, 0, 0, 0), (.sipush 0, 0, 0, 0), (.putfield 0, 9, 3, 0), (.aload 0, 0, 0, 0), (.sipush (-1), 0, 0, 0), (.putfield 0, 9, 4, 0), (.aload 0, 0, 0, 0), (.sipush 0, 0, 0, 0), (.putfield 0, 9, 5, 0), (.aload 0, 0, 0, 0), (.aload 1, 0, 0, 0), (.putfield 2, 9, 0, 0), (.return_, 0, 0, 0)]]
def mk_83 : List (List mI) := [
  [(.aload 0, 0, 0, 0), (.sipush 0, 0, 0, 0), (.putfield 0, 9, 1, 0), (.aload 0, 0, 0, 0), (.sipush 0, 0, 0, 0), (.putfield 0, 9, 3, 0), (.aload 0, 0, 0, 0), (.invokevirtual 84, 1, 9, 0), (.return_, 0, 0, 0)]]
def mk_84 : List (List mI) := [
  [(.aload 0, 0, 0, 0), (.invokevirtual 89, 1, 9, 0), (.istore 1, 0, 0, 0), (.aload 0, 0, 0, 0), (.getfield 0, 9, 3, 0), (.istore 2, 0, 0, 0), (.aload 0, 0, 0, 0), (.iload 2, 0, 0, 0), (.putfield 0, 9, 2, 0)],
  [(.aload 0, 0, 0, 0), (.getfield 0, 9, 2, 0), (.aload 0, 0, 0, 0), (.getfield 2, 9, 0, 0), (.getfield 0, 8, 1, 0), (.if_icmp .ge 0, 2, 0, 0), (.aload 0, 0, 0, 0), (.getfield 2, 9, 0, 0), (.getfield 2, 8, 0, 0), (.aload 0, 0, 0, 0), (.getfield 0, 9, 2, 0), (.iaload, 0, 0, 0), (.invokestatic 92, 1, 9, 0), (.sipush 4, 0, 0, 0), (.if_icmp .ne 0, 2, 0, 0), (.aload 0, 0, 0, 0), (.dup, 0, 0, 0), (.getfield 0, 9, 2, 0), (.sipush 1, 0, 0, 0), (.iadd, 0, 0, 0), (.putfield 0, 9, 2, 0), (.goto 0, 1, 0, 0)],
  [(.aload 0, 0, 0, 0), (.aload 0, 0, 0, 0), (.getfield 0, 9, 2, 0), (.aload 0, 0, 0, 0), (.getfield 2, 9, 0, 0), (.getfield 0, 8, 1, 0), (.if_icmp .ge 0, 3, 0, 0), (.aload 0, 0, 0, 0), (.getfield 2, 9, 0, 0), (.getfield 2, 8, 0, 0), (.aload 0, 0, 0, 0), (.getfield 0, 9, 2, 0), (.iaload, 0, 0, 0), (.invokestatic 92, 1, 9, 0), (.goto 0, 4, 0, 0)],
  [(.sipush 0, 0, 0, 0)],
  [(.putfield 0, 9, 1, 0), (.aload 0, 0, 0, 0), (.aload 0, 0, 0, 0), (.getfield 0, 9, 2, 0), (.sipush 1, 0, 0, 0), (.iadd, 0, 0, 0), (.aload 0, 0, 0, 0), (.getfield 2, 9, 0, 0), (.getfield 0, 8, 1, 0), (.invokestatic 277, 2, 0, 0), (.putfield 0, 9, 3, 0)],
  [(.aload 0, 0, 0, 0), (.invokevirtual 89, 1, 9, 0), (.ifCond .eq 0, 6, 0, 0), (.aload 0, 0, 0, 0), (.getfield 0, 9, 3, 0), (.aload 0, 0, 0, 0), (.getfield 2, 9, 0, 0), (.getfield 0, 8, 1, 0), (.if_icmp .ge 0, 6, 0, 0), (.aload 0, 0, 0, 0), (.getfield 2, 9, 0, 0), (.getfield 2, 8, 0, 0), (.aload 0, 0, 0, 0), (.getfield 0, 9, 3, 0), (.iaload, 0, 0, 0), (.invokestatic 92, 1, 9, 0), (.aload 0, 0, 0, 0), (.getfield 0, 9, 1, 0), (.if_icmp .ne 0, 6, 0, 0), (.aload 0, 0, 0, 0), (.dup, 0, 0, 0), (.getfield 0, 9, 3, 0), (.sipush 1, 0, 0, 0), (.iadd, 0, 0, 0), (.putfield 0, 9, 3, 0), (.goto 0, 5, 0, 0)],
  [(.aload 0, 0, 0, 0), (.getfield 0, 9, 1, 0), (.sipush 1, 0, 0, 0), (.if_icmp .ne 0, 7, 0, 0), (.aload 0, 0, 0, 0), (.aload 0, 0, 0, 0), (.invokevirtual 90, 1, 9, 0), (.putfield 0, 9, 4, 0), (.goto 0, 8, 0, 0)],
  [(.aload 0, 0, 0, 0), (.getfield 0, 9, 1, 0), (.sipush 2, 0, 0, 0), (.if_icmp .ne 0, 8, 0, 0), (.aload 0, 0, 0, 0), (.aload 0, 0, 0, 0), (.invokevirtual 91, 1, 9, 0), (.putfield 0, 9, 5, 0)],
  [(.iload 1, 0, 0, 0), (.ifCond .eq 0, 9, 0, 0), (.aload 0, 0, 0, 0), (.invokevirtual 89, 1, 9, 0), (.ifCond .eq 0, 9, 0, 0), (.aload 0, 0, 0, 0), (.getfield 0, 9, 2, 0), (.iload 2, 0, 0, 0), (.if_icmp .ne 0, 9, 0, 0), (.aload 0, 0, 0, 0), (.sipush 5, 0, 0, 0), (.putfield 0, 9, 1, 0)],
  [(.return_, 0, 0, 0)]]
def mk_85 : List (List mI) := [
  [(.aload 0, 0, 0, 0), (.getfield 0, 9, 3, 0), (.aload 0, 0, 0, 0), (.getfield 0, 9, 2, 0), (.isub, 0, 0, 0), (.ireturn, 0, 0, 0)]]
def mk_86 : List (List mI) := [
  [(.aload 0, 0, 0, 0), (.getfield 0, 9, 1, 0), (.sipush 1, 0, 0, 0), (.if_icmp .ne 0, 1, 0, 0), (.aload 0, 0, 0, 0), (.getfield 0, 9, 4, 0), (.iload 1, 0, 0, 0), (.if_icmp .ne 0, 1, 0, 0), (.sipush 1, 0, 0, 0), (.goto 0, 2, 0, 0)],
  [(.sipush 0, 0, 0, 0)],
  [(.ireturn, 1, 0, 0)]]
def mk_87 : List (List mI) := [
  [(.aload 0, 0, 0, 0), (.getfield 0, 9, 1, 0), (.sipush 3, 0, 0, 0), (.if_icmp .ne 0, 1, 0, 0), (.aload 0, 0, 0, 0), (.getfield 2, 9, 0, 0), (.getfield 2, 8, 0, 0), (.aload 0, 0, 0, 0), (.getfield 0, 9, 2, 0), (.iaload, 0, 0, 0), (.iload 1, 0, 0, 0), (.if_icmp .ne 0, 1, 0, 0), (.sipush 1, 0, 0, 0), (.goto 0, 2, 0, 0)],
  [(.sipush 0, 0, 0, 0)],
  [(.ireturn, 1, 0, 0)]]
def mk_88 : List (List mI) := [
  [(.sipush 0, 0, 0, 0), (.istore 1, 0, 0, 0), (.sipush 0, 0, 0, 0), (.istore 2, 0, 0, 0)],
  [(.iload 2, 0, 0, 0), (.sipush 6, 0, 0, 0), (.if_icmp .ge 0, 2, 0, 0), (.aload 0, 0, 0, 0), (.getfield 0, 9, 2, 0), (.iload 2, 0, 0, 0), (.iadd, 0, 0, 0), (.aload 0, 0, 0, 0), (.getfield 0, 9, 3, 0), (.if_icmp .ge 0, 2, 0, 0), (.iload 1, 0, 0, 0), (.aload 0, 0, 0, 0), (.getfield 2, 9, 0, 0), (.getfield 2, 8, 0, 0), (.aload 0, 0, 0, 0), (.getfield 0, 9, 2, 0), (.iload 2, 0, 0, 0), (.iadd, 0, 0, 0), (.iaload, 0, 0, 0), (.sipush 97, 0, 0, 0), (.isub, 0, 0, 0), (.sipush 1, 0, 0, 0), (.iadd, 0, 0, 0), (.sipush 5, 0, 0, 0), (.iload 2, 0, 0, 0), (.imul, 0, 0, 0), (.ishl, 0, 0, 0), (.ior, 0, 0, 0), (.istore 1, 0, 0, 0), (.iinc 2 1, 0, 0, 0), (.goto 0, 1, 0, 0)],
  [(.iload 1, 0, 0, 0), (.ireturn, 0, 0, 0)]]
def mk_89 : List (List mI) := [
  [(.aload 0, 0, 0, 0), (.getfield 0, 9, 1, 0), (.sipush 1, 0, 0, 0), (.if_icmp .eq 0, 1, 0, 0), (.aload 0, 0, 0, 0), (.getfield 0, 9, 1, 0), (.sipush 2, 0, 0, 0), (.if_icmp .ne 0, 2, 0, 0)],
  [(.sipush 1, 0, 0, 0), (.goto 0, 3, 0, 0)],
  [(.sipush 0, 0, 0, 0)],
  [(.ireturn, 1, 0, 0)]]
def mk_90 : List (List mI) := [
  [(.aload 0, 0, 0, 0), (.getfield 0, 9, 3, 0), (.aload 0, 0, 0, 0), (.getfield 0, 9, 2, 0), (.isub, 0, 0, 0), (.istore 1, 0, 0, 0), (.sipush 0, 0, 0, 0), (.istore 2, 0, 0, 0)],
  [(.iload 2, 0, 0, 0), (.sipush 27, 0, 0, 0), (.if_icmp .ge 0, 6, 0, 0), (.iload 1, 0, 0, 0), (.sipush 6, 0, 0, 0), (.if_icmp .gt 0, 6, 0, 0), (.iload 2, 0, 0, 0), (.sipush 6, 0, 0, 0), (.imul, 0, 0, 0), (.istore 3, 0, 0, 0), (.sipush 0, 0, 0, 0), (.istore 4, 0, 0, 0)],
  [(.iload 4, 0, 0, 0), (.iload 1, 0, 0, 0), (.if_icmp .ge 0, 3, 0, 0), (.ldc 0, 0, 0, 0), (.iload 3, 0, 0, 0), (.iload 4, 0, 0, 0), (.iadd, 0, 0, 0), (.invokedynamic 1, 0, 0, 0), (.aload 0, 0, 0, 0), (.getfield 2, 9, 0, 0), (.getfield 2, 8, 0, 0), (.aload 0, 0, 0, 0), (.getfield 0, 9, 2, 0), (.iload 4, 0, 0, 0), (.iadd, 0, 0, 0), (.iaload, 0, 0, 0), (.if_icmp .ne 0, 3, 0, 0), (.iinc 4 1, 0, 0, 0), (.goto 0, 2, 0, 0)],
  [(.iload 4, 0, 0, 0), (.sipush 6, 0, 0, 0), (.if_icmp .eq 0, 4, 0, 0), (.iload 4, 0, 0, 0), (.iload 1, 0, 0, 0), (.if_icmp .ne 0, 5, 0, 0), (.ldc 0, 0, 0, 0), (.iload 3, 0, 0, 0), (.iload 4, 0, 0, 0), (.iadd, 0, 0, 0), (.invokedynamic 1, 0, 0, 0), (.sipush 32, 0, 0, 0), (.if_icmp .ne 0, 5, 0, 0)],
  [(.iload 2, 0, 0, 0), (.ireturn, 0, 0, 0)],
  [(.iinc 2 1, 0, 0, 0), (.goto 0, 1, 0, 0)],
  [(.sipush (-1), 0, 0, 0), (.ireturn, 0, 0, 0)]]
def mk_91 : List (List mI) := [
  [(.sipush 0, 0, 0, 0), (.istore 1, 0, 0, 0), (.aload 0, 0, 0, 0), (.getfield 0, 9, 2, 0), (.istore 2, 0, 0, 0)],
  [(.iload 2, 0, 0, 0), (.aload 0, 0, 0, 0), (.getfield 0, 9, 3, 0), (.if_icmp .ge 0, 2, 0, 0), (.iload 2, 0, 0, 0), (.aload 0, 0, 0, 0), (.getfield 0, 9, 2, 0), (.sipush 4, 0, 0, 0), (.iadd, 0, 0, 0), (.if_icmp .ge 0, 2, 0, 0), (.sipush 10, 0, 0, 0), (.iload 1, 0, 0, 0), (.imul, 0, 0, 0), (.aload 0, 0, 0, 0), (.getfield 2, 9, 0, 0), (.getfield 2, 8, 0, 0), (.iload 2, 0, 0, 0), (.iaload, 0, 0, 0), (.iadd, 0, 0, 0), (.sipush 48, 0, 0, 0), (.isub, 0, 0, 0), (.istore 1, 0, 0, 0), (.iinc 2 1, 0, 0, 0), (.goto 0, 1, 0, 0)],
  [(.iload 1, 0, 0, 0), (.ireturn, 0, 0, 0)]]
def mk_92 : List (List mI) := [
  [(.iload 0, 0, 0, 0), (.sipush 10, 0, 0, 0), (.if_icmp .eq 0, 1, 0, 0), (.iload 0, 0, 0, 0), (.sipush 32, 0, 0, 0), (.if_icmp .ne 0, 2, 0, 0)],
  [(.sipush 4, 0, 0, 0), (.ireturn, 0, 0, 0)],
  [(.iload 0, 0, 0, 0), (.sipush 97, 0, 0, 0), (.if_icmp .lt 0, 3, 0, 0), (.iload 0, 0, 0, 0), (.sipush 122, 0, 0, 0), (.if_icmp .gt 0, 3, 0, 0), (.sipush 1, 0, 0, 0), (.ireturn, 0, 0, 0)],
  [(.iload 0, 0, 0, 0), (.sipush 48, 0, 0, 0), (.if_icmp .lt 0, 4, 0, 0), (.iload 0, 0, 0, 0), (.sipush 57, 0, 0, 0), (.if_icmp .gt 0, 4, 0, 0), (.sipush 2, 0, 0, 0), (.goto 0, 5, 0, 0)],
  [(.sipush 3, 0, 0, 0)],
  [(.ireturn, 0, 0, 0)]]
def mk_93 : List (List mI) := [
  [(.aload 0, 0, 0, 0), (.monitorexit, 0, 0, 0), (.aload 0, 0, 0, 0), (.sipush 64, 0, 0, 0), (.newarray .int, 20, 0, 0), (.putfield 2, 10, 1, 0), (.aload 0, 0, 0, 0), (.sipush 7, 0, 0, 0), (.newarray .int, 20, 0, 0), (.putfield 2, 10, 2, 0), (.aload 0, 0, 0, 0), (.sipush 7, 0, 0, 0), (.newarray .int, 20, 0, 0), (.putfield 2, 10, 3, 0), (.aload 0, 0, 0, 0), (.sipush 0, 0, 0, 0), (.putfield 0, 10, 4, 0), (.aload 0, 0, 0, 0), (.sipush 7, 0, 0, 0), (.newarray .int, 20, 0, 0), (.putfield 2, 10, 5, 0), (.aload 0, 0, 0, 0), (.sipush 7, 0, 0, 0), (.newarray .int, 20, 0, 0), (.putfield 2, 10, 6, 0), (.aload 0, 0, 0, 0), (.sipush 7, 0, 0, 0), (.newarray .int, 20, 0, 0), (.putfield 2, 10, 7, 0), (.aload 0, 0, 0, 0), (.aload 1, 0, 0, 0), (.putfield 2, 10, 0, 0), (.return_, 0, 0, 0)]]
def mk_94 : List (List mI) := [
  [(.sipush 0, 0, 0, 0), (.istore 2, 0, 0, 0), (.sipush 0, 0, 0, 0), (.istore 3, 0, 0, 0)],
  [(.iload 3, 0, 0, 0), (.aload 0, 0, 0, 0), (.getfield 2, 10, 0, 0), (.getfield 0, 0, 4, 0), (.if_icmp .ge 0, 3, 0, 0), (.aload 1, 0, 0, 0), (.getfield 2, 7, 0, 0), (.iload 3, 0, 0, 0), (.iaload, 0, 0, 0), (.aload 0, 0, 0, 0), (.getfield 2, 10, 0, 0), (.getfield 0, 0, 8, 0), (.if_icmp .lt 0, 2, 0, 0), (.iinc 2 1, 0, 0, 0)],
  [(.iinc 3 1, 0, 0, 0), (.goto 0, 1, 0, 0)],
  [(.iload 2, 0, 0, 0), (.ireturn, 0, 0, 0)]]
def mk_95 : List (List mI) := [
  [(.aload 0, 0, 0, 0), (.aload 0, 0, 0, 0), (.aload 1, 0, 0, 0), (.invokevirtual 94, 2, 10, 0), (.putfield 0, 10, 4, 0), (.sipush 0, 0, 0, 0), (.istore 2, 0, 0, 0)],
  [(.iload 2, 0, 0, 0), (.aload 0, 0, 0, 0), (.getfield 2, 10, 0, 0), (.getfield 0, 0, 4, 0), (.if_icmp .ge 0, 2, 0, 0), (.aload 0, 0, 0, 0), (.iload 2, 0, 0, 0), (.aload 1, 0, 0, 0), (.invokevirtual 99, 3, 10, 0), (.iinc 2 1, 0, 0, 0), (.goto 0, 1, 0, 0)],
  [(.sipush 0, 0, 0, 0), (.istore 2, 0, 0, 0)],
  [(.iload 2, 0, 0, 0), (.aload 0, 0, 0, 0), (.getfield 2, 10, 0, 0), (.getfield 0, 0, 4, 0), (.if_icmp .ge 0, 12, 0, 0), (.aload 1, 0, 0, 0), (.getfield 2, 7, 1, 0), (.iload 2, 0, 0, 0), (.iaload, 0, 0, 0), (.istore 3, 0, 0, 0), (.iload 3, 0, 0, 0), (.sipush 255, 0, 0, 0), (.if_icmp .ne 0, 4, 0, 0), (.aload 0, 0, 0, 0), (.getfield 2, 10, 5, 0), (.iload 2, 0, 0, 0), (.aload 0, 0, 0, 0), (.aload 0, 0, 0, 0), (.getfield 2, 10, 0, 0), (.getfield 2, 0, 3, 0), (.sipush 0, 0, 0, 0), (.iload 2, 0, 0, 0), (.aload 1, 0, 0, 0), (.invokevirtual 100, 5, 10, 0), (.invokestatic 150, 1, 11, 0), (.iastore, 0, 0, 0), (.goto 0, 7, 0, 0)],
  [(.aload 0, 0, 0, 0), (.getfield 2, 10, 5, 0), (.iload 2, 0, 0, 0), (.iload 3, 0, 0, 0), (.sipush 254, 0, 0, 0), (.if_icmp .ne 0, 5, 0, 0), (.sipush (-1), 0, 0, 0), (.goto 0, 6, 0, 0)],
  [(.iload 3, 0, 0, 0)],
  [(.iastore, 0, 0, 0)],
  [(.aload 0, 0, 0, 0), (.getfield 2, 10, 5, 0), (.iload 2, 0, 0, 0), (.iaload, 0, 0, 0), (.sipush (-1), 0, 0, 0), (.if_icmp .eq 0, 8, 0, 0), (.aload 1, 0, 0, 0), (.getfield 0, 7, 4, 0), (.iload 2, 0, 0, 0), (.ishr, 0, 0, 0), (.sipush 1, 0, 0, 0), (.iand, 0, 0, 0), (.ifCond .ne 0, 8, 0, 0), (.sipush 1, 0, 0, 0), (.goto 0, 9, 0, 0)],
  [(.sipush 0, 0, 0, 0)],
  [(.istore 4, 0, 0, 0), (.aload 0, 0, 0, 0), (.getfield 2, 10, 6, 0), (.iload 2, 0, 0, 0), (.iload 4, 0, 0, 0), (.ifCond .eq 0, 10, 0, 0), (.aload 0, 0, 0, 0), (.getfield 2, 10, 5, 0), (.iload 2, 0, 0, 0), (.iaload, 0, 0, 0), (.goto 0, 11, 0, 0)],
  [(.aload 1, 0, 0, 0), (.getfield 2, 7, 0, 0), (.iload 2, 0, 0, 0), (.iaload, 0, 0, 0)],
  [(.iastore, 0, 0, 0), (.iinc 2 1, 0, 0, 0), (.goto 0, 3, 0, 0)],
  [(.sipush 0, 0, 0, 0), (.istore 2, 0, 0, 0)],
  [(.iload 2, 0, 0, 0), (.aload 0, 0, 0, 0), (.getfield 2, 10, 0, 0), (.getfield 0, 0, 4, 0), (.if_icmp .ge 0, 14, 0, 0), (.aload 0, 0, 0, 0), (.getfield 2, 10, 7, 0), (.iload 2, 0, 0, 0), (.aload 0, 0, 0, 0), (.aload 0, 0, 0, 0), (.getfield 2, 10, 0, 0), (.getfield 2, 0, 3, 0), (.sipush 2, 0, 0, 0), (.iload 2, 0, 0, 0), (.aload 1, 0, 0, 0), (.invokevirtual 100, 5, 10, 0), (.invokestatic 150, 1, 11, 0), (.iastore, 0, 0, 0), (.iinc 2 1, 0, 0, 0), (.goto 0, 13, 0, 0)],
  [(.return_, 0, 0, 0)]]
def mk_96 : List (List mI) := [
  [(.sipush 0, 0, 0, 0), (.istore 2, 0, 0, 0), (.sipush 0, 0, 0, 0), (.istore 3, 0, 0, 0)],
  [(.iload 3, 0, 0, 0), (.aload 0, 0, 0, 0), (.getfield 2, 10, 0, 0), (.getfield 0, 0, 4, 0), (.if_icmp .ge 0, 3, 0, 0), (.aload 0, 0, 0, 0), (.iload 3, 0, 0, 0), (.aload 1, 0, 0, 0), (.invokevirtual 97, 3, 10, 0), (.ifCond .eq 0, 2, 0, 0), (.iinc 2 1, 0, 0, 0)],
  [(.aload 1, 0, 0, 0), (.getfield 2, 7, 0, 0), (.iload 3, 0, 0, 0), (.aload 0, 0, 0, 0), (.getfield 2, 10, 7, 0), (.iload 3, 0, 0, 0), (.iaload, 0, 0, 0), (.iastore, 0, 0, 0), (.aload 1, 0, 0, 0), (.getfield 2, 7, 1, 0), (.iload 3, 0, 0, 0), (.sipush 255, 0, 0, 0), (.iastore, 0, 0, 0), (.iinc 3 1, 0, 0, 0), (.goto 0, 1, 0, 0)],
  [(.aload 1, 0, 0, 0), (.getfield 0, 7, 2, 0), (.sipush 999, 0, 0, 0), (.if_icmp .ge 0, 4, 0, 0), (.aload 1, 0, 0, 0), (.dup, 0, 0, 0), (.getfield 0, 7, 2, 0), (.sipush 1, 0, 0, 0), (.iadd, 0, 0, 0), (.putfield 0, 7, 2, 0)],
  [(.iload 2, 0, 0, 0), (.ireturn, 0, 0, 0)]]
def mk_97 : List (List mI) := [
  [(.aload 2, 0, 0, 0), (.getfield 2, 7, 0, 0), (.iload 1, 0, 0, 0), (.iaload, 0, 0, 0), (.aload 0, 0, 0, 0), (.getfield 2, 10, 0, 0), (.getfield 0, 0, 8, 0), (.if_icmp .ge 0, 1, 0, 0), (.aload 0, 0, 0, 0), (.getfield 2, 10, 7, 0), (.iload 1, 0, 0, 0), (.iaload, 0, 0, 0), (.aload 0, 0, 0, 0), (.getfield 2, 10, 0, 0), (.getfield 0, 0, 8, 0), (.if_icmp .lt 0, 1, 0, 0), (.sipush 1, 0, 0, 0), (.goto 0, 2, 0, 0)],
  [(.sipush 0, 0, 0, 0)],
  [(.ireturn, 1, 0, 0)]]
def mk_98 : List (List mI) := [
  [(.aload 0, 0, 0, 0), (.aload 0, 0, 0, 0), (.getfield 2, 10, 0, 0), (.getfield 2, 0, 3, 0), (.sipush 1, 0, 0, 0), (.iload 1, 0, 0, 0), (.aload 2, 0, 0, 0), (.invokevirtual 100, 5, 10, 0), (.invokestatic 150, 1, 11, 0), (.ireturn, 0, 0, 0)]]
def mk_99 : List (List mI) := [
  [(.aload 0, 0, 0, 0), (.getfield 2, 10, 0, 0), (.getfield 2, 0, 2, 0), (.iload 1, 0, 0, 0), (.iaload, 0, 0, 0), (.aload 2, 0, 0, 0), (.getfield 0, 7, 3, 0), (.sipush (-1), 0, 0, 0), (.ixor, 0, 0, 0), (.iand, 0, 0, 0), (.istore 3, 0, 0, 0), (.iload 3, 0, 0, 0), (.ifCond .ne 0, 1, 0, 0), (.aload 2, 0, 0, 0), (.getfield 2, 7, 0, 0), (.iload 1, 0, 0, 0), (.iaload, 0, 0, 0), (.goto 0, 2, 0, 0)],
  [(.sipush 0, 0, 0, 0)],
  [(.istore 4, 0, 0, 0), (.iload 3, 0, 0, 0), (.ifCond .ne 0, 3, 0, 0), (.aload 2, 0, 0, 0), (.getfield 2, 7, 0, 0), (.iload 1, 0, 0, 0), (.iaload, 0, 0, 0), (.goto 0, 4, 0, 0)],
  [(.sipush 20, 0, 0, 0)],
  [(.istore 5, 0, 0, 0), (.sipush 0, 0, 0, 0), (.istore 6, 0, 0, 0)],
  [(.iload 6, 0, 0, 0), (.aload 0, 0, 0, 0), (.getfield 2, 10, 0, 0), (.getfield 0, 0, 4, 0), (.if_icmp .ge 0, 7, 0, 0), (.iload 3, 0, 0, 0), (.iload 6, 0, 0, 0), (.ishr, 0, 0, 0), (.sipush 1, 0, 0, 0), (.iand, 0, 0, 0), (.sipush 1, 0, 0, 0), (.if_icmp .ne 0, 6, 0, 0), (.iload 4, 0, 0, 0), (.aload 2, 0, 0, 0), (.getfield 2, 7, 0, 0), (.iload 6, 0, 0, 0), (.iaload, 0, 0, 0), (.invokestatic 275, 2, 0, 0), (.istore 4, 0, 0, 0), (.iload 5, 0, 0, 0), (.aload 2, 0, 0, 0), (.getfield 2, 7, 0, 0), (.iload 6, 0, 0, 0), (.iaload, 0, 0, 0), (.invokestatic 277, 2, 0, 0), (.istore 5, 0, 0, 0)],
  [(.iinc 6 1, 0, 0, 0), (.goto 0, 5, 0, 0)],
  [(.aload 0, 0, 0, 0), (.getfield 2, 10, 2, 0), (.iload 1, 0, 0, 0), (.iload 4, 0, 0, 0), (.iastore, 0, 0, 0), (.aload 0, 0, 0, 0), (.getfield 2, 10, 3, 0), (.iload 1, 0, 0, 0), (.iload 5, 0, 0, 0), (.iastore, 0, 0, 0), (.return_, 0, 0, 0)]]
def mk_100 : List (List mI) := [
  [(.sipush 0, 0, 0, 0), (.istore 5, 0, 0, 0), (.aload 1, 0, 0, 0), (.getfield 2, 5, 1, 0), (.iload 2, 0, 0, 0), (.iaload, 0, 0, 0), (.istore 6, 0, 0, 0)],
  [(.iload 6, 0, 0, 0), (.aload 1, 0, 0, 0), (.getfield 2, 5, 2, 0), (.iload 2, 0, 0, 0), (.iaload, 0, 0, 0), (.if_icmp .ge 0, 9, 0, 0), (.aload 1, 0, 0, 0), (.getfield 2, 5, 0, 0), (.iload 6, 0, 0, 0), (.iaload, 0, 0, 0), (.sipush 31, 0, 0, 0), (.iand, 0, 0, 0), (.istore 7, 0, 0, 0), (.iload 7, 0, 0, 0), (.sipush 9, 0, 0, 0), (.if_icmp .gt 0, 4, 0, 0), (.iload 5, 0, 0, 0), (.aload 0, 0, 0, 0), (.getfield 2, 10, 1, 0), (.arraylength, 0, 0, 0), (.if_icmp .ge 0, 8, 0, 0), (.aload 0, 0, 0, 0), (.getfield 2, 10, 1, 0), (.iload 5, 0, 0, 0), (.iload 7, 0, 0, 0), (.ifCond .ne 0, 2, 0, 0), (.aload 1, 0, 0, 0), (.getfield 2, 5, 0, 0), (.iload 6, 0, 0, 0), (.iaload, 0, 0, 0), (.sipush 5, 0, 0, 0), (.ishr, 0, 0, 0), (.goto 0, 3, 0, 0)],
  [(.aload 0, 0, 0, 0), (.iload 7, 0, 0, 0), (.iload 3, 0, 0, 0), (.aload 4, 0, 0, 0), (.invokevirtual 101, 4, 10, 0)],
  [(.iastore, 0, 0, 0), (.iinc 5 1, 0, 0, 0), (.goto 0, 8, 0, 0)],
  [(.iload 7, 0, 0, 0), (.sipush 11, 0, 0, 0), (.if_icmp .gt 0, 5, 0, 0), (.iload 5, 0, 0, 0), (.ifCond .le 0, 8, 0, 0), (.aload 0, 0, 0, 0), (.getfield 2, 10, 1, 0), (.iload 5, 0, 0, 0), (.sipush 1, 0, 0, 0), (.isub, 0, 0, 0), (.aload 0, 0, 0, 0), (.iload 7, 0, 0, 0), (.aload 0, 0, 0, 0), (.getfield 2, 10, 1, 0), (.iload 5, 0, 0, 0), (.sipush 1, 0, 0, 0), (.isub, 0, 0, 0), (.iaload, 0, 0, 0), (.iload 3, 0, 0, 0), (.invokevirtual 102, 4, 10, 0), (.iastore, 0, 0, 0), (.goto 0, 8, 0, 0)],
  [(.iload 5, 0, 0, 0), (.sipush 1, 0, 0, 0), (.if_icmp .le 0, 8, 0, 0), (.iinc 5 (-1), 0, 0, 0), (.aload 0, 0, 0, 0), (.getfield 2, 10, 1, 0), (.iload 5, 0, 0, 0), (.sipush 1, 0, 0, 0), (.isub, 0, 0, 0), (.iload 7, 0, 0, 0), (.sipush 17, 0, 0, 0), (.if_icmp .gt 0, 6, 0, 0), (.iload 7, 0, 0, 0), (.aload 0, 0, 0, 0), (.getfield 2, 10, 1, 0), (.iload 5, 0, 0, 0), (.sipush 1, 0, 0, 0), (.isub, 0, 0, 0), (.iaload, 0, 0, 0), (.aload 0, 0, 0, 0), (.getfield 2, 10, 1, 0), (.iload 5, 0, 0, 0), (.iaload, 0, 0, 0), (.invokestatic 103, 3, 10, 0), (.goto 0, 7, 0, 0)],
  [(.iload 7, 0, 0, 0), (.aload 0, 0, 0, 0), (.getfield 2, 10, 1, 0), (.iload 5, 0, 0, 0), (.sipush 1, 0, 0, 0), (.isub, 0, 0, 0), (.iaload, 0, 0, 0), (.aload 0, 0, 0, 0), (.getfield 2, 10, 1, 0), (.iload 5, 0, 0, 0), (.iaload, 0, 0, 0), (.invokestatic 104, 3, 10, 0)],
  [(.iastore, 0, 0, 0)],
  [(.iinc 6 1, 0, 0, 0), (.goto 0, 1, 0, 0)],
  [(.iload 5, 0, 0, 0), (.ifCond .le 0, 10, 0, 0), (.aload 0, 0, 0, 0), (.getfield 2, 10, 1, 0), (.sipush 0, 0, 0, 0), (.iaload, 0, 0, 0), (.goto 0, 11, 0, 0)],
  [(.sipush 0, 0, 0, 0)],
  [(.ireturn, 0, 0, 0)]]
def mk_101 : List (List mI) := [
  [(.iload 1, 0, 0, 0), (.tableswitch 9 1 8 #[1, 2, 3, 4, 5, 6, 7, 8], 0, 0, 0)],
  [(.aload 3, 0, 0, 0), (.getfield 2, 7, 0, 0), (.iload 2, 0, 0, 0), (.iaload, 0, 0, 0), (.ireturn, 0, 0, 0)],
  [(.aload 0, 0, 0, 0), (.getfield 2, 10, 2, 0), (.iload 2, 0, 0, 0), (.iaload, 0, 0, 0), (.ireturn, 0, 0, 0)],
  [(.aload 0, 0, 0, 0), (.getfield 2, 10, 3, 0), (.iload 2, 0, 0, 0), (.iaload, 0, 0, 0), (.ireturn, 0, 0, 0)],
  [(.aload 3, 0, 0, 0), (.getfield 0, 7, 2, 0), (.ireturn, 0, 0, 0)],
  [(.aload 0, 0, 0, 0), (.getfield 0, 10, 4, 0), (.ireturn, 0, 0, 0)],
  [(.aload 0, 0, 0, 0), (.getfield 2, 10, 6, 0), (.iload 2, 0, 0, 0), (.iaload, 0, 0, 0), (.ireturn, 0, 0, 0)],
  [(.iload 2, 0, 0, 0), (.ireturn, 0, 0, 0)],
  [(.aload 3, 0, 0, 0), (.getfield 0, 7, 3, 0), (.iload 2, 0, 0, 0), (.ishr, 0, 0, 0), (.sipush 1, 0, 0, 0), (.iand, 0, 0, 0), (.ireturn, 0, 0, 0)],
  [(.aload 3, 0, 0, 0), (.getfield 0, 7, 4, 0), (.iload 2, 0, 0, 0), (.ishr, 0, 0, 0), (.sipush 1, 0, 0, 0), (.iand, 0, 0, 0), (.ireturn, 0, 0, 0)]]
def mk_102 : List (List mI) := [
  [(.iload 1, 0, 0, 0), (.sipush 10, 0, 0, 0), (.if_icmp .ne 0, 3, 0, 0), (.aload 0, 0, 0, 0), (.getfield 2, 10, 0, 0), (.iload 2, 0, 0, 0), (.invokevirtual 3, 2, 0, 0), (.ifCond .eq 0, 1, 0, 0), (.aload 0, 0, 0, 0), (.getfield 2, 10, 0, 0), (.getfield 2, 0, 2, 0), (.iload 3, 0, 0, 0), (.iaload, 0, 0, 0), (.iload 2, 0, 0, 0), (.ishr, 0, 0, 0), (.sipush 1, 0, 0, 0), (.iand, 0, 0, 0), (.goto 0, 2, 0, 0)],
  [(.sipush 0, 0, 0, 0)],
  [(.ireturn, 0, 0, 0)],
  [(.iload 2, 0, 0, 0), (.ifCond .ne 0, 4, 0, 0), (.sipush 1, 0, 0, 0), (.goto 0, 5, 0, 0)],
  [(.sipush 0, 0, 0, 0)],
  [(.ireturn, 0, 0, 0)]]
def mk_103 : List (List mI) := [
  [(.jsr 0, 0, 0, 0), (.lstore 3, 0, 0, 0), (.iload 0, 0, 0, 0), (.tableswitch 8 12 16 #[1, 2, 3, 4, 7], 0, 0, 0)],
  [(.iload 1, 0, 0, 0), (.i2l, 0, 0, 0), (.iload 2, 0, 0, 0), (.i2l, 0, 0, 0), (.ladd, 0, 0, 0), (.lstore 3, 0, 0, 0), (.goto 0, 9, 0, 0)],
  [(.iload 1, 0, 0, 0), (.i2l, 0, 0, 0), (.iload 2, 0, 0, 0), (.i2l, 0, 0, 0), (.lsub, 0, 0, 0), (.lstore 3, 0, 0, 0), (.goto 0, 9, 0, 0)],
  [(.iload 1, 0, 0, 0), (.i2l, 0, 0, 0), (.iload 2, 0, 0, 0), (.i2l, 0, 0, 0), (.lmul, 0, 0, 0), (.lstore 3, 0, 0, 0), (.goto 0, 9, 0, 0)],
  [(.iload 2, 0, 0, 0), (.ifCond .ne 0, 5, 0, 0), (.jsr 0, 0, 0, 0), (.goto 0, 6, 0, 0)],
  [(.iload 1, 0, 0, 0), (.iload 2, 0, 0, 0), (.invokestatic 274, 2, 0, 0), (.i2l, 0, 0, 0)],
  [(.lstore 3, 0, 0, 0), (.goto 0, 9, 0, 0)],
  [(.iload 1, 0, 0, 0), (.iload 2, 0, 0, 0), (.invokestatic 277, 2, 0, 0), (.i2l, 0, 0, 0), (.lstore 3, 0, 0, 0), (.goto 0, 9, 0, 0)],
  [(.iload 1, 0, 0, 0), (.iload 2, 0, 0, 0), (.invokestatic 275, 2, 0, 0), (.i2l, 0, 0, 0), (.lstore 3, 0, 0, 0)],
  [(.jsr (-1000000), 0, 0, 0), (.jsr 1000000, 0, 0, 0), (.lload 3, 0, 0, 0), (.invokestatic 278, 2, 0, 0), (.invokestatic 276, 2, 0, 0), (.l2i, 0, 0, 0), (.ireturn, 0, 0, 0)]]
def mk_104 : List (List mI) := [
  [(.iload 0, 0, 0, 0), (.tableswitch 11 18 21 #[1, 4, 7, 10], 0, 0, 0)],
  [(.iload 1, 0, 0, 0), (.iload 2, 0, 0, 0), (.if_icmp .ge 0, 2, 0, 0), (.sipush 1, 0, 0, 0), (.goto 0, 3, 0, 0)],
  [(.sipush 0, 0, 0, 0)],
  [(.ireturn, 0, 0, 0)],
  [(.iload 1, 0, 0, 0), (.iload 2, 0, 0, 0), (.if_icmp .le 0, 5, 0, 0), (.sipush 1, 0, 0, 0), (.goto 0, 6, 0, 0)],
  [(.sipush 0, 0, 0, 0)],
  [(.ireturn, 0, 0, 0)],
  [(.iload 1, 0, 0, 0), (.iload 2, 0, 0, 0), (.if_icmp .ne 0, 8, 0, 0), (.sipush 1, 0, 0, 0), (.goto 0, 9, 0, 0)],
  [(.sipush 0, 0, 0, 0)],
  [(.ireturn, 0, 0, 0)],
  [(.iload 1, 0, 0, 0), (.iload 2, 0, 0, 0), (.iand, 0, 0, 0), (.ireturn, 0, 0, 0)],
  [(.iload 1, 0, 0, 0), (.iload 2, 0, 0, 0), (.ior, 0, 0, 0), (.ireturn, 0, 0, 0)]]
def mk_105 : List (List mI) := [
  [(.aload 0, 0, 0, 0), (.monitorexit, 0, 0, 0), (.aload 0, 0, 0, 0), (.new 8, 0, 0, 0), (.dup, 0, 0, 0), (.invokespecial 80, 1, 8, 0), (.putfield 2, 11, 0, 0), (.aload 0, 0, 0, 0), (.new 0, 0, 0, 0), (.dup, 0, 0, 0), (.invokespecial 0, 1, 0, 0), (.putfield 2, 11, 1, 0), (.aload 0, 0, 0, 0), (.new 0, 0, 0, 0), (.dup, 0, 0, 0), (.invokespecial 0, 1, 0, 0), (.putfield 2, 11, 2, 0), (.aload 0, 0, 0, 0), (.new 4, 0, 0, 0), (.dup, 0, 0, 0), (.aload 0, 0, 0, 0), (.getfield 2, 11, 0, 0), (.aload 0, 0, 0, 0), (.getfield 2, 11, 2, 0), (.invokespecial 33, 3, 4, 0), (.putfield 2, 11, 3, 0), (.aload 0, 0, 0, 0), (.new 10, 0, 0, 0), (.dup, 0, 0, 0), (.aload 0, 0, 0, 0), (.getfield 2, 11, 1, 0), (.invokespecial 93, 2, 10, 0), (.putfield 2, 11, 4, 0), (.aload 0, 0, 0, 0), (.new 7, 0, 0, 0), (.dup, 0, 0, 0), (.invokespecial 76, 1, 7, 0), (.putfield 2, 11, 5, 0), (.aload 0, 0, 0, 0), (.new 6, 0, 0, 0), (.dup, 0, 0, 0), (.invokespecial 71, 1, 6, 0), (.putfield 2, 11, 6, 0), (.aload 0, 0, 0, 0), (.new 3, 0, 0, 0), (.dup, 0, 0, 0), (.aload 0, 0, 0, 0), (.getfield 2, 11, 1, 0), (.aload 0, 0, 0, 0), (.getfield 2, 11, 4, 0), (.aload 0, 0, 0, 0), (.getfield 2, 11, 5, 0), (.aload 0, 0, 0, 0), (.getfield 2, 11, 6, 0), (.invokespecial 15, 5, 3, 0), (.putfield 2, 11, 7, 0), (.aload 0, 0, 0, 0), (.new 2, 0, 0, 0), (.dup, 0, 0, 0), (.invokespecial 11, 1, 2, 0), (.putfield 2, 11, 8, 0), (.aload 0, 0, 0, 0), (.new 1, 0, 0, 0), (.dup, 0, 0, 0), (.invokespecial 8, 1, 1, 0), (.putfield 2, 11, 9, 0), (.aload 0, 0, 0, 0), (.sipush 24, 0, 0, 0), (.newarray .int, 20, 0, 0), (.putfield 2, 11, 10, 0), (.aload 0, 0, 0, 0), (.sipush 6, 0, 0, 0), (.newarray .int, 20, 0, 0), (.putfield 2, 11, 11, 0), (.aload 0, 0, 0, 0), (.sipush 0, 0, 0, 0), (.putfield 0, 11, 12, 0), (.aload 0, 0, 0, 0), (.sipush 1, 0, 0, 0), (.putfield 0, 11, 13, 0), (.return_, 0, 0, 0)]]
def mk_106 : List (List mI) := [
  [(.aload 0, 0, 0, 0), (.getfield 2, 11, 0, 0), (.getfield 0, 8, 1, 0), (.sipush 20, 0, 0, 0), (.iadd, 0, 0, 0), (.sipush 1600, 0, 0, 0), (.if_icmp .le 0, 1, 0, 0), (.aload 0, 0, 0, 0), (.sipush 0, 0, 0, 0), (.invokevirtual 138, 2, 11, 0), (.ireturn, 0, 0, 0)],
  [(.aload 0, 0, 0, 0), (.getfield 2, 11, 0, 0), (.iload 1, 0, 0, 0), (.invokevirtual 81, 2, 8, 0), (.aload 0, 0, 0, 0), (.getfield 2, 11, 0, 0), (.iload 2, 0, 0, 0), (.invokevirtual 81, 2, 8, 0), (.aload 0, 0, 0, 0), (.getfield 2, 11, 0, 0), (.iload 3, 0, 0, 0), (.invokevirtual 81, 2, 8, 0), (.aload 0, 0, 0, 0), (.getfield 2, 11, 0, 0), (.iload 4, 0, 0, 0), (.invokevirtual 81, 2, 8, 0), (.aload 0, 0, 0, 0), (.getfield 2, 11, 0, 0), (.iload 5, 0, 0, 0), (.invokevirtual 81, 2, 8, 0), (.aload 0, 0, 0, 0), (.getfield 2, 11, 0, 0), (.getfield 0, 8, 1, 0), (.ireturn, 0, 0, 0)]]
def mk_107 : List (List mI) := [
  [(.iload 1, 0, 0, 0), (.ifCond .lt 0, 1, 0, 0), (.iload 1, 0, 0, 0), (.aload 0, 0, 0, 0), (.getfield 2, 11, 0, 0), (.getfield 0, 8, 1, 0), (.if_icmp .le 0, 2, 0, 0)],
  [(.aload 0, 0, 0, 0), (.sipush 0, 0, 0, 0), (.invokevirtual 139, 2, 11, 0), (.ireturn, 1, 0, 0)],
  [(.aload 0, 0, 0, 0), (.getfield 2, 11, 0, 0), (.iload 1, 0, 0, 0), (.putfield 0, 8, 1, 0), (.sipush 1, 0, 0, 0), (.ireturn, 1, 0, 0)]]
def mk_108 : List (List mI) := [
  [(.aload 0, 0, 0, 0), (.getfield 2, 11, 3, 0), (.invokevirtual 34, 1, 4, 0), (.istore 1, 0, 0, 0), (.aload 0, 0, 0, 0), (.getfield 2, 11, 0, 0), (.sipush 0, 0, 0, 0), (.putfield 0, 8, 1, 0), (.iload 1, 0, 0, 0), (.sipush (-1), 0, 0, 0), (.if_icmp .ne 0, 1, 0, 0), (.aload 0, 0, 0, 0), (.sipush 1, 0, 0, 0), (.invokevirtual 138, 2, 11, 0), (.ireturn, 0, 0, 0)],
  [(.aload 0, 0, 0, 0), (.getfield 2, 11, 1, 0), (.aload 0, 0, 0, 0), (.getfield 2, 11, 2, 0), (.invokevirtual 7, 2, 0, 0), (.aload 0, 0, 0, 0), (.getfield 2, 11, 5, 0), (.aload 0, 0, 0, 0), (.getfield 2, 11, 1, 0), (.invokevirtual 77, 2, 7, 0), (.aload 0, 0, 0, 0), (.getfield 2, 11, 8, 0), (.sipush 0, 0, 0, 0), (.putfield 0, 2, 1, 0), (.aload 0, 0, 0, 0), (.getfield 2, 11, 6, 0), (.sipush 0, 0, 0, 0), (.putfield 0, 6, 1, 0), (.aload 0, 0, 0, 0), (.getfield 2, 11, 9, 0), (.sipush 0, 0, 0, 0), (.putfield 0, 1, 3, 0), (.iload 1, 0, 0, 0), (.ireturn, 0, 0, 0)]]
def mk_109 : List (List mI) := [
  [(.iload 1, 0, 0, 0), (.ifCond .ne 0, 1, 0, 0), (.aload 0, 0, 0, 0), (.getfield 2, 11, 3, 0), (.getfield 0, 4, 2, 0), (.ireturn, 0, 0, 0)],
  [(.iload 1, 0, 0, 0), (.sipush 1, 0, 0, 0), (.if_icmp .ne 0, 2, 0, 0), (.aload 0, 0, 0, 0), (.getfield 2, 11, 3, 0), (.getfield 0, 4, 3, 0), (.goto 0, 3, 0, 0)],
  [(.sipush (-1), 0, 0, 0)],
  [(.ireturn, 0, 0, 0)]]
def mk_110 : List (List mI) := [
  [(.iload 1, 0, 0, 0), (.tableswitch 11 0 9 #[1, 2, 3, 4, 5, 6, 7, 8, 9, 10], 0, 0, 0)],
  [(.aload 0, 0, 0, 0), (.getfield 2, 11, 1, 0), (.getfield 0, 0, 4, 0), (.ireturn, 0, 0, 0)],
  [(.aload 0, 0, 0, 0), (.getfield 2, 11, 1, 0), (.getfield 0, 0, 5, 0), (.ireturn, 0, 0, 0)],
  [(.aload 0, 0, 0, 0), (.getfield 2, 11, 5, 0), (.getfield 0, 7, 2, 0), (.ireturn, 0, 0, 0)],
  [(.aload 0, 0, 0, 0), (.getfield 2, 11, 4, 0), (.aload 0, 0, 0, 0), (.getfield 2, 11, 5, 0), (.invokevirtual 94, 2, 10, 0), (.ireturn, 0, 0, 0)],
  [(.aload 0, 0, 0, 0), (.getfield 2, 11, 5, 0), (.getfield 0, 7, 3, 0), (.invokestatic 273, 1, 0, 0), (.ireturn, 0, 0, 0)],
  [(.aload 0, 0, 0, 0), (.getfield 2, 11, 5, 0), (.getfield 0, 7, 4, 0), (.invokestatic 273, 1, 0, 0), (.ireturn, 0, 0, 0)],
  [(.aload 0, 0, 0, 0), (.getfield 2, 11, 5, 0), (.aload 0, 0, 0, 0), (.getfield 2, 11, 1, 0), (.getfield 0, 0, 4, 0), (.invokevirtual 79, 2, 7, 0), (.ireturn, 0, 0, 0)],
  [(.aload 0, 0, 0, 0), (.getfield 2, 11, 8, 0), (.getfield 0, 2, 1, 0), (.ireturn, 0, 0, 0)],
  [(.aload 0, 0, 0, 0), (.getfield 2, 11, 6, 0), (.getfield 0, 6, 1, 0), (.ireturn, 0, 0, 0)],
  [(.aload 0, 0, 0, 0), (.getfield 2, 11, 9, 0), (.getfield 0, 1, 3, 0), (.ireturn, 0, 0, 0)],
  [(.sipush (-1), 0, 0, 0), (.ireturn, 0, 0, 0)]]
def mk_111 : List (List mI) := [
  [(.aload 0, 0, 0, 0), (.getfield 2, 11, 1, 0), (.iload 1, 0, 0, 0), (.invokevirtual 3, 2, 0, 0), (.ifCond .eq 0, 1, 0, 0), (.iload 2, 0, 0, 0), (.ifCond .lt 0, 1, 0, 0), (.iload 2, 0, 0, 0), (.sipush 6, 0, 0, 0), (.if_icmp .lt 0, 2, 0, 0)],
  [(.sipush (-1), 0, 0, 0), (.ireturn, 0, 0, 0)],
  [(.aload 0, 0, 0, 0), (.getfield 2, 11, 1, 0), (.getfield 2, 0, 0, 0), (.iload 1, 0, 0, 0), (.iaload, 0, 0, 0), (.sipush 5, 0, 0, 0), (.iload 2, 0, 0, 0), (.imul, 0, 0, 0), (.ishr, 0, 0, 0), (.sipush 31, 0, 0, 0), (.iand, 0, 0, 0), (.ireturn, 0, 0, 0)]]
def mk_112 : List (List mI) := [
  [(.aload 0, 0, 0, 0), (.getfield 2, 11, 1, 0), (.iload 1, 0, 0, 0), (.invokevirtual 3, 2, 0, 0), (.ifCond .ne 0, 1, 0, 0), (.sipush (-1), 0, 0, 0), (.ireturn, 0, 0, 0)],
  [(.iload 2, 0, 0, 0), (.tableswitch 9 0 4 #[2, 3, 4, 5, 6], 0, 0, 0)],
  [(.aload 0, 0, 0, 0), (.getfield 2, 11, 5, 0), (.getfield 2, 7, 0, 0), (.iload 1, 0, 0, 0), (.iaload, 0, 0, 0), (.ireturn, 0, 0, 0)],
  [(.aload 0, 0, 0, 0), (.getfield 2, 11, 5, 0), (.getfield 0, 7, 3, 0), (.iload 1, 0, 0, 0), (.ishr, 0, 0, 0), (.sipush 1, 0, 0, 0), (.iand, 0, 0, 0), (.ireturn, 0, 0, 0)],
  [(.aload 0, 0, 0, 0), (.getfield 2, 11, 5, 0), (.getfield 0, 7, 4, 0), (.iload 1, 0, 0, 0), (.ishr, 0, 0, 0), (.sipush 1, 0, 0, 0), (.iand, 0, 0, 0), (.ireturn, 0, 0, 0)],
  [(.aload 0, 0, 0, 0), (.getfield 2, 11, 1, 0), (.getfield 2, 0, 2, 0), (.iload 1, 0, 0, 0), (.iaload, 0, 0, 0), (.ireturn, 0, 0, 0)],
  [(.aload 0, 0, 0, 0), (.getfield 2, 11, 5, 0), (.getfield 2, 7, 0, 0), (.iload 1, 0, 0, 0), (.iaload, 0, 0, 0), (.aload 0, 0, 0, 0), (.getfield 2, 11, 1, 0), (.getfield 0, 0, 8, 0), (.if_icmp .lt 0, 7, 0, 0), (.sipush 1, 0, 0, 0), (.goto 0, 8, 0, 0)],
  [(.sipush 0, 0, 0, 0)],
  [(.ireturn, 0, 0, 0)],
  [(.sipush (-1), 0, 0, 0), (.ireturn, 0, 0, 0)]]
def mk_113 : List (List mI) := [
  [(.aload 0, 0, 0, 0), (.getfield 2, 11, 1, 0), (.iload 1, 0, 0, 0), (.invokevirtual 3, 2, 0, 0), (.ifCond .ne 0, 1, 0, 0), (.sipush (-1), 0, 0, 0), (.ireturn, 0, 0, 0)],
  [(.aload 0, 0, 0, 0), (.getfield 2, 11, 4, 0), (.aload 0, 0, 0, 0), (.getfield 2, 11, 5, 0), (.invokevirtual 95, 2, 10, 0), (.iload 2, 0, 0, 0), (.tableswitch 6 0 3 #[2, 3, 4, 5], 0, 0, 0)],
  [(.aload 0, 0, 0, 0), (.getfield 2, 11, 4, 0), (.getfield 2, 10, 5, 0), (.iload 1, 0, 0, 0), (.iaload, 0, 0, 0), (.ireturn, 0, 0, 0)],
  [(.aload 0, 0, 0, 0), (.getfield 2, 11, 4, 0), (.iload 1, 0, 0, 0), (.aload 0, 0, 0, 0), (.getfield 2, 11, 5, 0), (.invokevirtual 98, 3, 10, 0), (.ireturn, 0, 0, 0)],
  [(.aload 0, 0, 0, 0), (.getfield 2, 11, 4, 0), (.getfield 2, 10, 6, 0), (.iload 1, 0, 0, 0), (.iaload, 0, 0, 0), (.ireturn, 0, 0, 0)],
  [(.aload 0, 0, 0, 0), (.getfield 2, 11, 4, 0), (.getfield 2, 10, 7, 0), (.iload 1, 0, 0, 0), (.iaload, 0, 0, 0), (.ireturn, 0, 0, 0)],
  [(.sipush (-1), 0, 0, 0), (.ireturn, 0, 0, 0)]]
def mk_114 : List (List mI) := [
  [(.aload 0, 0, 0, 0), (.getfield 2, 11, 8, 0), (.iload 1, 0, 0, 0), (.iload 2, 0, 0, 0), (.invokevirtual 13, 3, 2, 0), (.ireturn, 0, 0, 0)]]
def mk_115 : List (List mI) := [
  [(.aload 0, 0, 0, 0), (.getfield 2, 11, 1, 0), (.iload 1, 0, 0, 0), (.invokevirtual 3, 2, 0, 0), (.ifCond .eq 0, 1, 0, 0), (.iload 2, 0, 0, 0), (.ifCond .lt 0, 1, 0, 0), (.iload 2, 0, 0, 0), (.sipush 60, 0, 0, 0), (.if_icmp .gt 0, 1, 0, 0), (.aload 0, 0, 0, 0), (.getfield 2, 11, 5, 0), (.getfield 0, 7, 2, 0), (.iload 2, 0, 0, 0), (.iadd, 0, 0, 0), (.sipush 999, 0, 0, 0), (.if_icmp .le 0, 2, 0, 0)],
  [(.sipush (-1), 0, 0, 0), (.ireturn, 0, 0, 0)],
  [(.aload 0, 0, 0, 0), (.getfield 2, 11, 7, 0), (.iload 2, 0, 0, 0), (.invokevirtual 17, 2, 3, 0), (.astore 4, 0, 0, 0), (.iload 3, 0, 0, 0), (.ifCond .ne 0, 3, 0, 0), (.aload 4, 0, 0, 0), (.getfield 2, 7, 0, 0), (.iload 1, 0, 0, 0), (.iaload, 0, 0, 0), (.ireturn, 0, 0, 0)],
  [(.iload 3, 0, 0, 0), (.sipush 1, 0, 0, 0), (.if_icmp .ne 0, 4, 0, 0), (.aload 0, 0, 0, 0), (.getfield 2, 11, 4, 0), (.aload 4, 0, 0, 0), (.invokevirtual 94, 2, 10, 0), (.goto 0, 5, 0, 0)],
  [(.sipush (-1), 0, 0, 0)],
  [(.ireturn, 0, 0, 0)]]
def mk_116 : List (List mI) := [
  [(.aload 0, 0, 0, 0), (.getfield 2, 11, 1, 0), (.iload 1, 0, 0, 0), (.invokevirtual 3, 2, 0, 0), (.ifCond .eq 0, 1, 0, 0), (.aload 0, 0, 0, 0), (.getfield 2, 11, 7, 0), (.iload 1, 0, 0, 0), (.invokevirtual 18, 2, 3, 0), (.goto 0, 2, 0, 0)],
  [(.sipush (-1), 0, 0, 0)],
  [(.ireturn, 0, 0, 0)]]
def mk_117 : List (List mI) := [
  [(.aload 0, 0, 0, 0), (.getfield 2, 11, 1, 0), (.iload 1, 0, 0, 0), (.invokevirtual 3, 2, 0, 0), (.ifCond .eq 0, 1, 0, 0), (.aload 0, 0, 0, 0), (.getfield 2, 11, 7, 0), (.iload 1, 0, 0, 0), (.invokevirtual 19, 2, 3, 0), (.goto 0, 2, 0, 0)],
  [(.sipush (-1), 0, 0, 0)],
  [(.ireturn, 0, 0, 0)]]
def mk_118 : List (List mI) := [
  [(.aload 0, 0, 0, 0), (.getfield 2, 11, 1, 0), (.iload 1, 0, 0, 0), (.invokevirtual 3, 2, 0, 0), (.ifCond .eq 0, 1, 0, 0), (.aload 0, 0, 0, 0), (.getfield 2, 11, 7, 0), (.iload 2, 0, 0, 0), (.sipush 20, 0, 0, 0), (.invokevirtual 16, 3, 3, 0), (.ifCond .eq 0, 1, 0, 0), (.iload 3, 0, 0, 0), (.ifCond .lt 0, 1, 0, 0), (.iload 3, 0, 0, 0), (.sipush 1, 0, 0, 0), (.if_icmp .le 0, 2, 0, 0)],
  [(.sipush (-1), 0, 0, 0), (.ireturn, 0, 0, 0)],
  [(.aload 0, 0, 0, 0), (.getfield 2, 11, 7, 0), (.iload 1, 0, 0, 0), (.iload 2, 0, 0, 0), (.invokevirtual 20, 3, 3, 0), (.iload 3, 0, 0, 0), (.ifCond .ne 0, 3, 0, 0), (.aload 0, 0, 0, 0), (.getfield 2, 11, 7, 0), (.getfield 0, 3, 7, 0), (.goto 0, 4, 0, 0)],
  [(.aload 0, 0, 0, 0), (.getfield 2, 11, 7, 0), (.getfield 0, 3, 8, 0)],
  [(.ireturn, 0, 0, 0)]]
def mk_119 : List (List mI) := [
  [(.aload 0, 0, 0, 0), (.getfield 2, 11, 1, 0), (.iload 1, 0, 0, 0), (.invokevirtual 3, 2, 0, 0), (.ifCond .eq 0, 1, 0, 0), (.aload 0, 0, 0, 0), (.getfield 2, 11, 7, 0), (.iload 2, 0, 0, 0), (.sipush 30, 0, 0, 0), (.invokevirtual 16, 3, 3, 0), (.ifCond .ne 0, 2, 0, 0)],
  [(.sipush (-1), 0, 0, 0), (.ireturn, 0, 0, 0)],
  [(.aload 0, 0, 0, 0), (.getfield 2, 11, 7, 0), (.iload 1, 0, 0, 0), (.iload 2, 0, 0, 0), (.invokevirtual 22, 3, 3, 0), (.ireturn, 0, 0, 0)]]
def mk_120 : List (List mI) := [
  [(.iload 1, 0, 0, 0), (.ifCond .lt 0, 1, 0, 0), (.iload 1, 0, 0, 0), (.sipush 1, 0, 0, 0), (.if_icmp .gt 0, 1, 0, 0), (.aload 0, 0, 0, 0), (.getfield 2, 11, 7, 0), (.iload 2, 0, 0, 0), (.sipush 60, 0, 0, 0), (.invokevirtual 16, 3, 3, 0), (.ifCond .ne 0, 2, 0, 0)],
  [(.sipush (-1), 0, 0, 0), (.ireturn, 0, 0, 0)],
  [(.aload 0, 0, 0, 0), (.getfield 2, 11, 7, 0), (.iload 1, 0, 0, 0), (.ifCond .ne 0, 3, 0, 0), (.sipush 1, 0, 0, 0), (.goto 0, 4, 0, 0)],
  [(.sipush 0, 0, 0, 0)],
  [(.iload 2, 0, 0, 0), (.invokevirtual 24, 3, 3, 0), (.ireturn, 0, 0, 0)]]
def mk_121 : List (List mI) := [
  [(.aload 0, 0, 0, 0), (.getfield 2, 11, 7, 0), (.iload 1, 0, 0, 0), (.sipush 30, 0, 0, 0), (.invokevirtual 16, 3, 3, 0), (.ifCond .eq 0, 1, 0, 0), (.aload 0, 0, 0, 0), (.getfield 2, 11, 7, 0), (.iload 1, 0, 0, 0), (.invokevirtual 25, 2, 3, 0), (.goto 0, 2, 0, 0)],
  [(.sipush (-1), 0, 0, 0)],
  [(.ireturn, 0, 0, 0)]]
def mk_122 : List (List mI) := [
  [(.aload 0, 0, 0, 0), (.getfield 2, 11, 6, 0), (.aload 0, 0, 0, 0), (.getfield 2, 11, 0, 0), (.aload 0, 0, 0, 0), (.getfield 2, 11, 1, 0), (.getfield 0, 0, 4, 0), (.invokevirtual 72, 3, 6, 0), (.istore 1, 0, 0, 0), (.iload 1, 0, 0, 0), (.ifCond .eq 0, 1, 0, 0), (.aload 0, 0, 0, 0), (.getfield 2, 11, 6, 0), (.aload 0, 0, 0, 0), (.getfield 2, 11, 0, 0), (.invokevirtual 73, 2, 6, 0)],
  [(.aload 0, 0, 0, 0), (.getfield 2, 11, 0, 0), (.sipush 0, 0, 0, 0), (.putfield 0, 8, 1, 0), (.iload 1, 0, 0, 0), (.ifCond .eq 0, 2, 0, 0), (.aload 0, 0, 0, 0), (.getfield 2, 11, 6, 0), (.getfield 0, 6, 1, 0), (.goto 0, 3, 0, 0)],
  [(.aload 0, 0, 0, 0), (.sipush 1, 0, 0, 0), (.invokevirtual 138, 2, 11, 0)],
  [(.ireturn, 0, 0, 0)]]
def mk_123 : List (List mI) := [
  [(.aload 0, 0, 0, 0), (.getfield 2, 11, 1, 0), (.iload 1, 0, 0, 0), (.invokevirtual 3, 2, 0, 0), (.ifCond .eq 0, 1, 0, 0), (.aload 0, 0, 0, 0), (.getfield 2, 11, 7, 0), (.iload 1, 0, 0, 0), (.invokevirtual 28, 2, 3, 0), (.goto 0, 2, 0, 0)],
  [(.sipush (-1), 0, 0, 0)],
  [(.ireturn, 0, 0, 0)]]
def mk_124 : List (List mI) := [
  [(.aload 0, 0, 0, 0), (.getfield 2, 11, 1, 0), (.iload 1, 0, 0, 0), (.invokevirtual 3, 2, 0, 0), (.ifCond .eq 0, 1, 0, 0), (.iload 2, 0, 0, 0), (.ifCond .lt 0, 1, 0, 0), (.iload 2, 0, 0, 0), (.sipush 1, 0, 0, 0), (.if_icmp .le 0, 2, 0, 0)],
  [(.sipush (-1), 0, 0, 0), (.ireturn, 0, 0, 0)],
  [(.aload 0, 0, 0, 0), (.getfield 2, 11, 7, 0), (.iload 1, 0, 0, 0), (.aload 0, 0, 0, 0), (.getfield 2, 11, 7, 0), (.iload 1, 0, 0, 0), (.invokevirtual 28, 2, 3, 0), (.invokevirtual 30, 3, 3, 0), (.iload 2, 0, 0, 0), (.ifCond .ne 0, 3, 0, 0), (.aload 0, 0, 0, 0), (.getfield 2, 11, 7, 0), (.getfield 0, 3, 7, 0), (.goto 0, 4, 0, 0)],
  [(.aload 0, 0, 0, 0), (.getfield 2, 11, 7, 0), (.getfield 0, 3, 8, 0)],
  [(.ireturn, 0, 0, 0)]]
def mk_125 : List (List mI) := [
  [(.iload 2, 0, 0, 0), (.ifCond .lt 0, 1, 0, 0), (.iload 2, 0, 0, 0), (.sipush 20, 0, 0, 0), (.if_icmp .le 0, 2, 0, 0)],
  [(.aload 0, 0, 0, 0), (.sipush 2, 0, 0, 0), (.invokevirtual 139, 2, 11, 0), (.ireturn, 1, 0, 0)],
  [(.aload 0, 0, 0, 0), (.iload 1, 0, 0, 0), (.iload 2, 0, 0, 0), (.invokevirtual 140, 3, 11, 0), (.ireturn, 1, 0, 0)]]
def mk_126 : List (List mI) := [
  [(.aload 0, 0, 0, 0), (.iload 1, 0, 0, 0), (.sipush 254, 0, 0, 0), (.invokevirtual 140, 3, 11, 0), (.ireturn, 1, 0, 0)]]
def mk_127 : List (List mI) := [
  [(.aload 0, 0, 0, 0), (.iload 1, 0, 0, 0), (.iload 2, 0, 0, 0), (.aload 0, 0, 0, 0), (.getfield 2, 11, 5, 0), (.getfield 0, 7, 3, 0), (.invokevirtual 141, 4, 11, 0), (.ifCond .ne 0, 1, 0, 0), (.aload 0, 0, 0, 0), (.sipush 2, 0, 0, 0), (.invokevirtual 139, 2, 11, 0), (.ireturn, 1, 0, 0)],
  [(.aload 0, 0, 0, 0), (.getfield 2, 11, 9, 0), (.aload 0, 0, 0, 0), (.getfield 2, 11, 5, 0), (.aload 0, 0, 0, 0), (.getfield 2, 11, 8, 0), (.invokevirtual 9, 3, 1, 0), (.aload 0, 0, 0, 0), (.getfield 2, 11, 5, 0), (.dup, 0, 0, 0), (.getfield 0, 7, 3, 0), (.sipush 1, 0, 0, 0), (.iload 1, 0, 0, 0), (.ishl, 0, 0, 0), (.ixor, 0, 0, 0), (.putfield 0, 7, 3, 0), (.sipush 1, 0, 0, 0), (.ireturn, 1, 0, 0)]]
def mk_128 : List (List mI) := [
  [(.aload 0, 0, 0, 0), (.iload 1, 0, 0, 0), (.iload 2, 0, 0, 0), (.aload 0, 0, 0, 0), (.getfield 2, 11, 5, 0), (.getfield 0, 7, 4, 0), (.invokevirtual 141, 4, 11, 0), (.ifCond .ne 0, 1, 0, 0), (.aload 0, 0, 0, 0), (.sipush 2, 0, 0, 0), (.invokevirtual 139, 2, 11, 0), (.ireturn, 1, 0, 0)],
  [(.aload 0, 0, 0, 0), (.getfield 2, 11, 9, 0), (.aload 0, 0, 0, 0), (.getfield 2, 11, 5, 0), (.aload 0, 0, 0, 0), (.getfield 2, 11, 8, 0), (.invokevirtual 9, 3, 1, 0), (.aload 0, 0, 0, 0), (.getfield 2, 11, 5, 0), (.dup, 0, 0, 0), (.getfield 0, 7, 4, 0), (.sipush 1, 0, 0, 0), (.iload 1, 0, 0, 0), (.ishl, 0, 0, 0), (.ixor, 0, 0, 0), (.putfield 0, 7, 4, 0), (.sipush 1, 0, 0, 0), (.ireturn, 1, 0, 0)]]
def mk_129 : List (List mI) := [
  [(.aload 0, 0, 0, 0), (.getfield 2, 11, 7, 0), (.iload 1, 0, 0, 0), (.sipush 100, 0, 0, 0), (.invokevirtual 16, 3, 3, 0), (.ifCond .ne 0, 1, 0, 0), (.aload 0, 0, 0, 0), (.sipush 3, 0, 0, 0), (.invokevirtual 138, 2, 11, 0), (.ireturn, 0, 0, 0)],
  [(.aload 0, 0, 0, 0), (.getfield 2, 11, 9, 0), (.aload 0, 0, 0, 0), (.getfield 2, 11, 5, 0), (.aload 0, 0, 0, 0), (.getfield 2, 11, 8, 0), (.invokevirtual 9, 3, 1, 0), (.sipush 0, 0, 0, 0), (.istore 2, 0, 0, 0), (.sipush 0, 0, 0, 0), (.istore 3, 0, 0, 0)],
  [(.iload 3, 0, 0, 0), (.iload 1, 0, 0, 0), (.if_icmp .ge 0, 3, 0, 0), (.iload 2, 0, 0, 0), (.aload 0, 0, 0, 0), (.invokevirtual 142, 1, 11, 0), (.iadd, 0, 0, 0), (.istore 2, 0, 0, 0), (.iinc 3 1, 0, 0, 0), (.goto 0, 2, 0, 0)],
  [(.iload 2, 0, 0, 0), (.ireturn, 0, 0, 0)]]
def mk_130 : List (List mI) := [
  [(.aload 0, 0, 0, 0), (.getfield 2, 11, 7, 0), (.iload 1, 0, 0, 0), (.sipush 100, 0, 0, 0), (.invokevirtual 16, 3, 3, 0), (.ifCond .ne 0, 1, 0, 0), (.aload 0, 0, 0, 0), (.sipush 3, 0, 0, 0), (.invokevirtual 138, 2, 11, 0), (.ireturn, 0, 0, 0)],
  [(.aload 0, 0, 0, 0), (.getfield 2, 11, 9, 0), (.aload 0, 0, 0, 0), (.getfield 2, 11, 5, 0), (.aload 0, 0, 0, 0), (.getfield 2, 11, 8, 0), (.invokevirtual 9, 3, 1, 0), (.sipush 0, 0, 0, 0), (.istore 2, 0, 0, 0), (.sipush 0, 0, 0, 0), (.istore 3, 0, 0, 0)],
  [(.iload 3, 0, 0, 0), (.iload 1, 0, 0, 0), (.if_icmp .ge 0, 4, 0, 0), (.aload 0, 0, 0, 0), (.invokevirtual 143, 1, 11, 0), (.ifCond .eq 0, 3, 0, 0), (.iinc 2 1, 0, 0, 0)],
  [(.aload 0, 0, 0, 0), (.invokevirtual 142, 1, 11, 0), (.pop, 0, 0, 0), (.iinc 3 1, 0, 0, 0), (.goto 0, 2, 0, 0)],
  [(.iload 2, 0, 0, 0), (.ireturn, 0, 0, 0)]]
def mk_131 : List (List mI) := [
  [(.aload 0, 0, 0, 0), (.getfield 2, 11, 9, 0), (.aload 0, 0, 0, 0), (.getfield 2, 11, 5, 0), (.aload 0, 0, 0, 0), (.getfield 2, 11, 8, 0), (.invokevirtual 10, 3, 1, 0), (.ifCond .ne 0, 1, 0, 0), (.aload 0, 0, 0, 0), (.sipush 4, 0, 0, 0), (.invokevirtual 139, 2, 11, 0), (.ifCond .eq 0, 2, 0, 0)],
  [(.sipush 1, 0, 0, 0), (.goto 0, 3, 0, 0)],
  [(.sipush 0, 0, 0, 0)],
  [(.ireturn, 1, 0, 0)]]
def mk_132 : List (List mI) := [
  [(.iload 1, 0, 0, 0), (.ifCond .ge 0, 1, 0, 0), (.aload 0, 0, 0, 0), (.sipush 5, 0, 0, 0), (.invokevirtual 139, 2, 11, 0), (.ireturn, 1, 0, 0)],
  [(.aload 0, 0, 0, 0), (.iload 1, 0, 0, 0), (.putfield 0, 11, 13, 0), (.sipush 1, 0, 0, 0), (.ireturn, 1, 0, 0)]]
def mk_133 : List (List mI) := [
  [(.aload 0, 0, 0, 0), (.getfield 2, 11, 3, 0), (.invokevirtual 35, 1, 4, 0), (.istore 1, 0, 0, 0), (.aload 0, 0, 0, 0), (.getfield 2, 11, 0, 0), (.sipush 0, 0, 0, 0), (.putfield 0, 8, 1, 0), (.iload 1, 0, 0, 0), (.ifCond .ne 0, 1, 0, 0), (.jsr (-1000000000000000), 0, 0, 0), (.lreturn, 0, 0, 0)],
  [(.aload 0, 0, 0, 0), (.getfield 2, 11, 4, 0), (.aload 0, 0, 0, 0), (.getfield 2, 11, 5, 0), (.invokevirtual 95, 2, 10, 0), (.aload 0, 0, 0, 0), (.getfield 2, 11, 3, 0), (.invokevirtual 36, 1, 4, 0), (.ifCond .eq 0, 2, 0, 0), (.aload 0, 0, 0, 0), (.invokevirtual 145, 1, 11, 0), (.goto 0, 3, 0, 0)],
  [(.aload 0, 0, 0, 0), (.invokevirtual 146, 1, 11, 0)],
  [(.lreturn, 0, 0, 0)]]
def mk_134 : List (List mI) := [
  [(.aload 0, 0, 0, 0), (.getfield 2, 11, 10, 0), (.sipush 0, 0, 0, 0), (.aload 0, 0, 0, 0), (.getfield 2, 11, 5, 0), (.getfield 0, 7, 2, 0), (.sipush 8, 0, 0, 0), (.ishr, 0, 0, 0), (.iastore, 0, 0, 0), (.aload 0, 0, 0, 0), (.getfield 2, 11, 10, 0), (.sipush 1, 0, 0, 0), (.aload 0, 0, 0, 0), (.getfield 2, 11, 5, 0), (.getfield 0, 7, 2, 0), (.sipush 255, 0, 0, 0), (.iand, 0, 0, 0), (.iastore, 0, 0, 0), (.sipush 2, 0, 0, 0), (.istore 1, 0, 0, 0), (.sipush 0, 0, 0, 0), (.istore 2, 0, 0, 0)],
  [(.iload 2, 0, 0, 0), (.aload 0, 0, 0, 0), (.getfield 2, 11, 1, 0), (.getfield 0, 0, 4, 0), (.if_icmp .ge 0, 2, 0, 0), (.aload 0, 0, 0, 0), (.getfield 2, 11, 10, 0), (.iload 1, 0, 0, 0), (.aload 0, 0, 0, 0), (.getfield 2, 11, 5, 0), (.getfield 2, 7, 0, 0), (.iload 2, 0, 0, 0), (.iaload, 0, 0, 0), (.iastore, 0, 0, 0), (.aload 0, 0, 0, 0), (.getfield 2, 11, 10, 0), (.iload 1, 0, 0, 0), (.sipush 1, 0, 0, 0), (.iadd, 0, 0, 0), (.aload 0, 0, 0, 0), (.getfield 2, 11, 5, 0), (.getfield 0, 7, 3, 0), (.iload 2, 0, 0, 0), (.ishr, 0, 0, 0), (.sipush 1, 0, 0, 0), (.iand, 0, 0, 0), (.sipush 2, 0, 0, 0), (.aload 0, 0, 0, 0), (.getfield 2, 11, 5, 0), (.getfield 0, 7, 4, 0), (.iload 2, 0, 0, 0), (.ishr, 0, 0, 0), (.sipush 1, 0, 0, 0), (.iand, 0, 0, 0), (.imul, 0, 0, 0), (.iadd, 0, 0, 0), (.iastore, 0, 0, 0), (.aload 0, 0, 0, 0), (.getfield 2, 11, 10, 0), (.iload 1, 0, 0, 0), (.sipush 2, 0, 0, 0), (.iadd, 0, 0, 0), (.aload 0, 0, 0, 0), (.getfield 2, 11, 5, 0), (.getfield 2, 7, 1, 0), (.iload 2, 0, 0, 0), (.iaload, 0, 0, 0), (.iastore, 0, 0, 0), (.iinc 1 3, 0, 0, 0), (.iinc 2 1, 0, 0, 0), (.goto 0, 1, 0, 0)],
  [(.aload 0, 0, 0, 0), (.getfield 2, 11, 10, 0), (.iload 1, 0, 0, 0), (.aload 0, 0, 0, 0), (.getfield 2, 11, 10, 0), (.iload 1, 0, 0, 0), (.invokestatic 149, 2, 11, 0), (.iastore, 0, 0, 0), (.aload 0, 0, 0, 0), (.iload 1, 0, 0, 0), (.sipush 1, 0, 0, 0), (.iadd, 0, 0, 0), (.putfield 0, 11, 12, 0), (.aload 0, 0, 0, 0), (.getfield 0, 11, 12, 0), (.ireturn, 0, 0, 0)]]
def mk_135 : List (List mI) := [
  [(.iload 1, 0, 0, 0), (.ifCond .lt 0, 1, 0, 0), (.iload 1, 0, 0, 0), (.aload 0, 0, 0, 0), (.getfield 0, 11, 12, 0), (.if_icmp .ge 0, 1, 0, 0), (.aload 0, 0, 0, 0), (.getfield 2, 11, 10, 0), (.iload 1, 0, 0, 0), (.iaload, 0, 0, 0), (.goto 0, 2, 0, 0)],
  [(.sipush (-1), 0, 0, 0)],
  [(.ireturn, 0, 0, 0)]]
def mk_136 : List (List mI) := [
  [(.aload 0, 0, 0, 0), (.invokevirtual 147, 1, 11, 0), (.istore 1, 0, 0, 0), (.iload 1, 0, 0, 0), (.ifCond .eq 0, 1, 0, 0), (.aload 0, 0, 0, 0), (.invokevirtual 148, 1, 11, 0)],
  [(.aload 0, 0, 0, 0), (.getfield 2, 11, 0, 0), (.sipush 0, 0, 0, 0), (.putfield 0, 8, 1, 0), (.iload 1, 0, 0, 0), (.ifCond .ne 0, 2, 0, 0), (.aload 0, 0, 0, 0), (.sipush 5, 0, 0, 0), (.invokevirtual 139, 2, 11, 0), (.ifCond .eq 0, 3, 0, 0)],
  [(.sipush 1, 0, 0, 0), (.goto 0, 4, 0, 0)],
  [(.sipush 0, 0, 0, 0)],
  [(.ireturn, 1, 0, 0)]]
def mk_137 : List (List mI) := [
  [(.iload 1, 0, 0, 0), (.ifCond .lt 0, 1, 0, 0), (.iload 1, 0, 0, 0), (.sipush 6, 0, 0, 0), (.if_icmp .ge 0, 1, 0, 0), (.aload 0, 0, 0, 0), (.getfield 2, 11, 11, 0), (.iload 1, 0, 0, 0), (.iaload, 0, 0, 0), (.goto 0, 2, 0, 0)],
  [(.sipush (-1), 0, 0, 0)],
  [(.ireturn, 0, 0, 0)]]
def mk_138 : List (List mI) := [
  [(.aload 0, 0, 0, 0), (.getfield 2, 11, 11, 0), (.iload 1, 0, 0, 0), (.dup2, 0, 0, 0), (.iaload, 0, 0, 0), (.sipush 1, 0, 0, 0), (.iadd, 0, 0, 0), (.iastore, 0, 0, 0), (.sipush (-1), 0, 0, 0), (.ireturn, 0, 0, 0)]]
def mk_139 : List (List mI) := [
  [(.aload 0, 0, 0, 0), (.getfield 2, 11, 11, 0), (.iload 1, 0, 0, 0), (.dup2, 0, 0, 0), (.iaload, 0, 0, 0), (.sipush 1, 0, 0, 0), (.iadd, 0, 0, 0), (.iastore, 0, 0, 0), (.sipush 0, 0, 0, 0), (.ireturn, 1, 0, 0)]]
def mk_140 : List (List mI) := [
  [(.aload 0, 0, 0, 0), (.getfield 2, 11, 1, 0), (.iload 1, 0, 0, 0), (.invokevirtual 3, 2, 0, 0), (.ifCond .eq 0, 1, 0, 0), (.aload 0, 0, 0, 0), (.getfield 2, 11, 5, 0), (.getfield 2, 7, 1, 0), (.iload 1, 0, 0, 0), (.iaload, 0, 0, 0), (.iload 2, 0, 0, 0), (.if_icmp .ne 0, 2, 0, 0)],
  [(.aload 0, 0, 0, 0), (.sipush 2, 0, 0, 0), (.invokevirtual 139, 2, 11, 0), (.ireturn, 1, 0, 0)],
  [(.aload 0, 0, 0, 0), (.getfield 2, 11, 9, 0), (.aload 0, 0, 0, 0), (.getfield 2, 11, 5, 0), (.aload 0, 0, 0, 0), (.getfield 2, 11, 8, 0), (.invokevirtual 9, 3, 1, 0), (.aload 0, 0, 0, 0), (.getfield 2, 11, 5, 0), (.getfield 2, 7, 1, 0), (.iload 1, 0, 0, 0), (.iload 2, 0, 0, 0), (.iastore, 0, 0, 0), (.sipush 1, 0, 0, 0), (.ireturn, 1, 0, 0)]]
def mk_141 : List (List mI) := [
  [(.aload 0, 0, 0, 0), (.getfield 2, 11, 1, 0), (.iload 1, 0, 0, 0), (.invokevirtual 3, 2, 0, 0), (.ifCond .eq 0, 2, 0, 0), (.iload 2, 0, 0, 0), (.ifCond .eq 0, 1, 0, 0), (.iload 2, 0, 0, 0), (.sipush 1, 0, 0, 0), (.if_icmp .ne 0, 2, 0, 0)],
  [(.iload 3, 0, 0, 0), (.iload 1, 0, 0, 0), (.ishr, 0, 0, 0), (.sipush 1, 0, 0, 0), (.iand, 0, 0, 0), (.iload 2, 0, 0, 0), (.if_icmp .eq 0, 2, 0, 0), (.sipush 1, 0, 0, 0), (.goto 0, 3, 0, 0)],
  [(.sipush 0, 0, 0, 0)],
  [(.ireturn, 1, 0, 0)]]
def mk_142 : List (List mI) := [
  [(.aload 0, 0, 0, 0), (.getfield 2, 11, 4, 0), (.aload 0, 0, 0, 0), (.getfield 2, 11, 5, 0), (.invokevirtual 95, 2, 10, 0), (.sipush 0, 0, 0, 0), (.istore 1, 0, 0, 0)],
  [(.iload 1, 0, 0, 0), (.aload 0, 0, 0, 0), (.getfield 2, 11, 1, 0), (.getfield 0, 0, 4, 0), (.if_icmp .ge 0, 3, 0, 0), (.aload 0, 0, 0, 0), (.getfield 2, 11, 4, 0), (.iload 1, 0, 0, 0), (.aload 0, 0, 0, 0), (.getfield 2, 11, 5, 0), (.invokevirtual 97, 3, 10, 0), (.ifCond .eq 0, 2, 0, 0), (.aload 0, 0, 0, 0), (.getfield 2, 11, 8, 0), (.aload 0, 0, 0, 0), (.getfield 2, 11, 5, 0), (.getfield 0, 7, 2, 0), (.iload 1, 0, 0, 0), (.aload 0, 0, 0, 0), (.getfield 2, 11, 4, 0), (.getfield 2, 10, 7, 0), (.iload 1, 0, 0, 0), (.iaload, 0, 0, 0), (.invokevirtual 12, 4, 2, 0)],
  [(.iinc 1 1, 0, 0, 0), (.goto 0, 1, 0, 0)],
  [(.aload 0, 0, 0, 0), (.getfield 2, 11, 4, 0), (.aload 0, 0, 0, 0), (.getfield 2, 11, 5, 0), (.invokevirtual 96, 2, 10, 0), (.ireturn, 0, 0, 0)]]
def mk_143 : List (List mI) := [
  [(.aload 0, 0, 0, 0), (.sipush 100, 0, 0, 0), (.invokevirtual 144, 2, 11, 0), (.aload 0, 0, 0, 0), (.getfield 2, 11, 1, 0), (.getfield 0, 0, 9, 0), (.if_icmp .ge 0, 1, 0, 0), (.aload 0, 0, 0, 0), (.getfield 2, 11, 1, 0), (.getfield 0, 0, 4, 0), (.ifCond .ne 0, 2, 0, 0)],
  [(.sipush 0, 0, 0, 0), (.ireturn, 1, 0, 0)],
  [(.aload 0, 0, 0, 0), (.aload 0, 0, 0, 0), (.getfield 2, 11, 1, 0), (.getfield 0, 0, 4, 0), (.invokevirtual 144, 2, 11, 0), (.istore 1, 0, 0, 0), (.aload 0, 0, 0, 0), (.getfield 2, 11, 5, 0), (.getfield 2, 7, 1, 0), (.iload 1, 0, 0, 0), (.aload 0, 0, 0, 0), (.sipush 21, 0, 0, 0), (.invokevirtual 144, 2, 11, 0), (.iastore, 0, 0, 0), (.sipush 1, 0, 0, 0), (.ireturn, 1, 0, 0)]]
def mk_144 : List (List mI) := [
  [(.aload 0, 0, 0, 0), (.jsr 1103515245, 0, 0, 0), (.aload 0, 0, 0, 0), (.getfield 0, 11, 13, 0), (.i2l, 0, 0, 0), (.lmul, 0, 0, 0), (.jsr 12345, 0, 0, 0), (.ladd, 0, 0, 0), (.jsr 2147483647, 0, 0, 0), (.land, 0, 0, 0), (.l2i, 0, 0, 0), (.putfield 0, 11, 13, 0), (.iload 1, 0, 0, 0), (.ifCond .le 0, 1, 0, 0), (.aload 0, 0, 0, 0), (.getfield 0, 11, 13, 0), (.sipush 64, 0, 0, 0), (.idiv, 0, 0, 0), (.iload 1, 0, 0, 0), (.irem, 0, 0, 0), (.goto 0, 2, 0, 0)],
  [(.sipush 0, 0, 0, 0)],
  [(.ireturn, 0, 0, 0)]]
def mk_145 : List (List mI) := [
  [(.sipush (-1), 0, 0, 0), (.istore 1, 0, 0, 0), (.sipush (-1), 0, 0, 0), (.istore 2, 0, 0, 0), (.sipush 0, 0, 0, 0), (.istore 3, 0, 0, 0), (.sipush 0, 0, 0, 0), (.istore 4, 0, 0, 0)],
  [(.iload 4, 0, 0, 0), (.aload 0, 0, 0, 0), (.getfield 2, 11, 1, 0), (.getfield 0, 0, 4, 0), (.if_icmp .ge 0, 5, 0, 0), (.aload 0, 0, 0, 0), (.getfield 2, 11, 4, 0), (.aload 0, 0, 0, 0), (.getfield 2, 11, 2, 0), (.getfield 2, 0, 3, 0), (.sipush 3, 0, 0, 0), (.iload 4, 0, 0, 0), (.aload 0, 0, 0, 0), (.getfield 2, 11, 5, 0), (.invokevirtual 100, 5, 10, 0), (.ifCond .eq 0, 4, 0, 0), (.iload 1, 0, 0, 0), (.sipush (-1), 0, 0, 0), (.if_icmp .ne 0, 2, 0, 0), (.iload 4, 0, 0, 0), (.goto 0, 3, 0, 0)],
  [(.iload 1, 0, 0, 0)],
  [(.istore 1, 0, 0, 0), (.iload 4, 0, 0, 0), (.istore 2, 0, 0, 0), (.iinc 3 1, 0, 0, 0)],
  [(.iinc 4 1, 0, 0, 0), (.goto 0, 1, 0, 0)],
  [(.aload 0, 0, 0, 0), (.getfield 2, 11, 3, 0), (.getfield 0, 4, 4, 0), (.sipush 17, 0, 0, 0), (.if_icmp .ne 0, 6, 0, 0), (.iload 1, 0, 0, 0), (.i2l, 0, 0, 0), (.lreturn, 0, 0, 0)],
  [(.aload 0, 0, 0, 0), (.getfield 2, 11, 3, 0), (.getfield 0, 4, 4, 0), (.sipush 24, 0, 0, 0), (.if_icmp .ne 0, 7, 0, 0), (.iload 2, 0, 0, 0), (.i2l, 0, 0, 0), (.goto 0, 8, 0, 0)],
  [(.iload 3, 0, 0, 0), (.i2l, 0, 0, 0)],
  [(.lreturn, 0, 0, 0)]]
def mk_146 : List (List mI) := [
  [(.jsr 0, 0, 0, 0), (.lstore 1, 0, 0, 0), (.sipush 0, 0, 0, 0), (.istore 3, 0, 0, 0), (.sipush 0, 0, 0, 0), (.istore 4, 0, 0, 0), (.sipush 0, 0, 0, 0), (.istore 5, 0, 0, 0)],
  [(.iload 5, 0, 0, 0), (.aload 0, 0, 0, 0), (.getfield 2, 11, 1, 0), (.getfield 0, 0, 4, 0), (.if_icmp .ge 0, 6, 0, 0), (.aload 0, 0, 0, 0), (.getfield 2, 11, 4, 0), (.aload 0, 0, 0, 0), (.getfield 2, 11, 2, 0), (.getfield 2, 0, 3, 0), (.sipush 3, 0, 0, 0), (.iload 5, 0, 0, 0), (.aload 0, 0, 0, 0), (.getfield 2, 11, 5, 0), (.invokevirtual 100, 5, 10, 0), (.istore 6, 0, 0, 0), (.lload 1, 0, 0, 0), (.iload 6, 0, 0, 0), (.i2l, 0, 0, 0), (.ladd, 0, 0, 0), (.lstore 1, 0, 0, 0), (.iload 5, 0, 0, 0), (.ifCond .ne 0, 2, 0, 0), (.iload 6, 0, 0, 0), (.goto 0, 3, 0, 0)],
  [(.iload 3, 0, 0, 0), (.iload 6, 0, 0, 0), (.invokestatic 275, 2, 0, 0)],
  [(.istore 3, 0, 0, 0), (.iload 5, 0, 0, 0), (.ifCond .ne 0, 4, 0, 0), (.iload 6, 0, 0, 0), (.goto 0, 5, 0, 0)],
  [(.iload 4, 0, 0, 0), (.iload 6, 0, 0, 0), (.invokestatic 277, 2, 0, 0)],
  [(.istore 4, 0, 0, 0), (.iinc 5 1, 0, 0, 0), (.goto 0, 1, 0, 0)],
  [(.aload 0, 0, 0, 0), (.getfield 2, 11, 3, 0), (.getfield 0, 4, 4, 0), (.sipush 26, 0, 0, 0), (.if_icmp .ne 0, 7, 0, 0), (.lload 1, 0, 0, 0), (.lreturn, 0, 0, 0)],
  [(.aload 0, 0, 0, 0), (.getfield 2, 11, 3, 0), (.getfield 0, 4, 4, 0), (.sipush 10, 0, 0, 0), (.if_icmp .ne 0, 8, 0, 0), (.iload 3, 0, 0, 0), (.i2l, 0, 0, 0), (.goto 0, 9, 0, 0)],
  [(.iload 4, 0, 0, 0), (.i2l, 0, 0, 0)],
  [(.lreturn, 0, 0, 0)]]
def mk_147 : List (List mI) := [
  [(.sipush 2, 0, 0, 0), (.sipush 3, 0, 0, 0), (.aload 0, 0, 0, 0), (.getfield 2, 11, 1, 0), (.getfield 0, 0, 4, 0), (.imul, 0, 0, 0), (.iadd, 0, 0, 0), (.istore 1, 0, 0, 0), (.aload 0, 0, 0, 0), (.getfield 2, 11, 0, 0), (.getfield 0, 8, 1, 0), (.iload 1, 0, 0, 0), (.sipush 1, 0, 0, 0), (.iadd, 0, 0, 0), (.if_icmp .ne 0, 1, 0, 0), (.aload 0, 0, 0, 0), (.getfield 2, 11, 0, 0), (.getfield 2, 8, 0, 0), (.iload 1, 0, 0, 0), (.iaload, 0, 0, 0), (.aload 0, 0, 0, 0), (.getfield 2, 11, 0, 0), (.getfield 2, 8, 0, 0), (.iload 1, 0, 0, 0), (.invokestatic 149, 2, 11, 0), (.if_icmp .eq 0, 2, 0, 0)],
  [(.sipush 0, 0, 0, 0), (.ireturn, 1, 0, 0)],
  [(.sipush 2, 0, 0, 0), (.istore 2, 0, 0, 0)],
  [(.iload 2, 0, 0, 0), (.iload 1, 0, 0, 0), (.if_icmp .ge 0, 7, 0, 0), (.aload 0, 0, 0, 0), (.getfield 2, 11, 0, 0), (.getfield 2, 8, 0, 0), (.iload 2, 0, 0, 0), (.sipush 2, 0, 0, 0), (.iadd, 0, 0, 0), (.iaload, 0, 0, 0), (.istore 3, 0, 0, 0), (.aload 0, 0, 0, 0), (.getfield 2, 11, 0, 0), (.getfield 2, 8, 0, 0), (.iload 2, 0, 0, 0), (.iaload, 0, 0, 0), (.sipush 20, 0, 0, 0), (.if_icmp .gt 0, 4, 0, 0), (.aload 0, 0, 0, 0), (.getfield 2, 11, 0, 0), (.getfield 2, 8, 0, 0), (.iload 2, 0, 0, 0), (.sipush 1, 0, 0, 0), (.iadd, 0, 0, 0), (.iaload, 0, 0, 0), (.sipush 3, 0, 0, 0), (.if_icmp .le 0, 5, 0, 0)],
  [(.sipush 0, 0, 0, 0), (.ireturn, 1, 0, 0)],
  [(.iload 3, 0, 0, 0), (.sipush 20, 0, 0, 0), (.if_icmp .le 0, 6, 0, 0), (.iload 3, 0, 0, 0), (.sipush 254, 0, 0, 0), (.if_icmp .eq 0, 6, 0, 0), (.iload 3, 0, 0, 0), (.sipush 255, 0, 0, 0), (.if_icmp .eq 0, 6, 0, 0), (.sipush 0, 0, 0, 0), (.ireturn, 1, 0, 0)],
  [(.iinc 2 3, 0, 0, 0), (.goto 0, 3, 0, 0)],
  [(.aload 0, 0, 0, 0), (.getfield 2, 11, 0, 0), (.getfield 2, 8, 0, 0), (.sipush 0, 0, 0, 0), (.iaload, 0, 0, 0), (.sipush 256, 0, 0, 0), (.imul, 0, 0, 0), (.aload 0, 0, 0, 0), (.getfield 2, 11, 0, 0), (.getfield 2, 8, 0, 0), (.sipush 1, 0, 0, 0), (.iaload, 0, 0, 0), (.iadd, 0, 0, 0), (.sipush 999, 0, 0, 0), (.if_icmp .gt 0, 8, 0, 0), (.sipush 1, 0, 0, 0), (.goto 0, 9, 0, 0)],
  [(.sipush 0, 0, 0, 0)],
  [(.ireturn, 1, 0, 0)]]
def mk_148 : List (List mI) := [
  [(.aload 0, 0, 0, 0), (.getfield 2, 11, 5, 0), (.aload 0, 0, 0, 0), (.getfield 2, 11, 0, 0), (.getfield 2, 8, 0, 0), (.sipush 0, 0, 0, 0), (.iaload, 0, 0, 0), (.sipush 256, 0, 0, 0), (.imul, 0, 0, 0), (.aload 0, 0, 0, 0), (.getfield 2, 11, 0, 0), (.getfield 2, 8, 0, 0), (.sipush 1, 0, 0, 0), (.iaload, 0, 0, 0), (.iadd, 0, 0, 0), (.putfield 0, 7, 2, 0), (.aload 0, 0, 0, 0), (.getfield 2, 11, 5, 0), (.sipush 0, 0, 0, 0), (.putfield 0, 7, 3, 0), (.aload 0, 0, 0, 0), (.getfield 2, 11, 5, 0), (.sipush 0, 0, 0, 0), (.putfield 0, 7, 4, 0), (.sipush 0, 0, 0, 0), (.istore 1, 0, 0, 0)],
  [(.iload 1, 0, 0, 0), (.aload 0, 0, 0, 0), (.getfield 2, 11, 1, 0), (.getfield 0, 0, 4, 0), (.if_icmp .ge 0, 2, 0, 0), (.sipush 2, 0, 0, 0), (.sipush 3, 0, 0, 0), (.iload 1, 0, 0, 0), (.imul, 0, 0, 0), (.iadd, 0, 0, 0), (.istore 2, 0, 0, 0), (.aload 0, 0, 0, 0), (.getfield 2, 11, 5, 0), (.getfield 2, 7, 0, 0), (.iload 1, 0, 0, 0), (.aload 0, 0, 0, 0), (.getfield 2, 11, 0, 0), (.getfield 2, 8, 0, 0), (.iload 2, 0, 0, 0), (.iaload, 0, 0, 0), (.iastore, 0, 0, 0), (.aload 0, 0, 0, 0), (.getfield 2, 11, 5, 0), (.dup, 0, 0, 0), (.getfield 0, 7, 3, 0), (.aload 0, 0, 0, 0), (.getfield 2, 11, 0, 0), (.getfield 2, 8, 0, 0), (.iload 2, 0, 0, 0), (.sipush 1, 0, 0, 0), (.iadd, 0, 0, 0), (.iaload, 0, 0, 0), (.sipush 1, 0, 0, 0), (.iand, 0, 0, 0), (.iload 1, 0, 0, 0), (.ishl, 0, 0, 0), (.ior, 0, 0, 0), (.putfield 0, 7, 3, 0), (.aload 0, 0, 0, 0), (.getfield 2, 11, 5, 0), (.dup, 0, 0, 0), (.getfield 0, 7, 4, 0), (.aload 0, 0, 0, 0), (.getfield 2, 11, 0, 0), (.getfield 2, 8, 0, 0), (.iload 2, 0, 0, 0), (.sipush 1, 0, 0, 0), (.iadd, 0, 0, 0), (.iaload, 0, 0, 0), (.sipush 1, 0, 0, 0), (.ishr, 0, 0, 0), (.iload 1, 0, 0, 0), (.ishl, 0, 0, 0), (.ior, 0, 0, 0), (.putfield 0, 7, 4, 0), (.aload 0, 0, 0, 0), (.getfield 2, 11, 5, 0), (.getfield 2, 7, 1, 0), (.iload 1, 0, 0, 0), (.aload 0, 0, 0, 0), (.getfield 2, 11, 0, 0), (.getfield 2, 8, 0, 0), (.iload 2, 0, 0, 0), (.sipush 2, 0, 0, 0), (.iadd, 0, 0, 0), (.iaload, 0, 0, 0), (.iastore, 0, 0, 0), (.iinc 1 1, 0, 0, 0), (.goto 0, 1, 0, 0)],
  [(.aload 0, 0, 0, 0), (.getfield 2, 11, 8, 0), (.sipush 0, 0, 0, 0), (.putfield 0, 2, 1, 0), (.aload 0, 0, 0, 0), (.getfield 2, 11, 9, 0), (.sipush 0, 0, 0, 0), (.putfield 0, 1, 3, 0), (.return_, 0, 0, 0)]]
def mk_149 : List (List mI) := [
  [(.sipush 137, 0, 0, 0), (.istore 2, 0, 0, 0), (.sipush 0, 0, 0, 0), (.istore 3, 0, 0, 0)],
  [(.iload 3, 0, 0, 0), (.iload 1, 0, 0, 0), (.if_icmp .ge 0, 2, 0, 0), (.iload 3, 0, 0, 0), (.aload 0, 0, 0, 0), (.arraylength, 0, 0, 0), (.if_icmp .ge 0, 2, 0, 0), (.sipush 3, 0, 0, 0), (.iload 2, 0, 0, 0), (.imul, 0, 0, 0), (.aload 0, 0, 0, 0), (.iload 3, 0, 0, 0), (.iaload, 0, 0, 0), (.iadd, 0, 0, 0), (.sipush 251, 0, 0, 0), (.irem, 0, 0, 0), (.istore 2, 0, 0, 0), (.iinc 3 1, 0, 0, 0), (.goto 0, 1, 0, 0)],
  [(.iload 2, 0, 0, 0), (.ireturn, 0, 0, 0)]]
def mk_150 : List (List mI) := [
  [(.sipush 0, 0, 0, 0), (.sipush 20, 0, 0, 0), (.iload 0, 0, 0, 0), (.invokestatic 277, 2, 0, 0), (.invokestatic 275, 2, 0, 0), (.ireturn, 0, 0, 0)]]
def mk_151_0 : List mI := [(.aload 0, 0, 0, 0), (.monitorexit, 0, 0, 0), (.aload 0, 0, 0, 0), (.sipush 1600, 0, 0, 0), (.newarray .int, 20, 0, 0), (.putfield 2, 12, 0, 0), (.aload 0, 0, 0, 0), (.sipush (-1), 0, 0, 0), (.putfield 0, 12, 8, 0), (.aload 0, 0, 0, 0), (.sipush 6, 0, 0, 0), (.newarray .int, 20, 0, 0), (.putfield 2, 12, 9, 0), (.aload 0, 0, 0, 0), (.sipush 4, 0, 0, 0), (.newarray .char, 22, 0, 0), (.dup, 0, 0, 0), (.sipush 0, 0, 0, 0), (.sipush 112, 0, 0, 0), (.castore, 0, 0, 0), (.dup, 0, 0, 0), (.sipush 1, 0, 0, 0), (.sipush 97, 0, 0, 0), (.castore, 0, 0, 0), (.dup, 0, 0, 0), (.sipush 2, 0, 0, 0), (.sipush 114, 0, 0, 0), (.castore, 0, 0, 0), (.dup, 0, 0, 0), (.sipush 3, 0, 0, 0), (.sipush 116, 0, 0, 0), (.castore, 0, 0, 0), (.putfield 2, 12, 10, 0), (.aload 0, 0, 0, 0), (.sipush 3, 0, 0, 0), (.newarray .char, 22, 0, 0), (.dup, 0, 0, 0), (.sipush 0, 0, 0, 0), (.sipush 97, 0, 0, 0), (.castore, 0, 0, 0), (.dup, 0, 0, 0), (.sipush 1, 0, 0, 0), (.sipush 105, 0, 0, 0), (.castore, 0, 0, 0), (.dup, 0, 0, 0), (.sipush 2, 0, 0, 0), (.sipush 114, 0, 0, 0), (.castore, 0, 0, 0), (.putfield 2, 12, 11, 0), (.aload 0, 0, 0, 0), (.sipush 4, 0, 0, 0), (.newarray .char, 22, 0, 0), (.dup, 0, 0, 0), (.sipush 0, 0, 0, 0), (.sipush 110, 0, 0, 0), (.castore, 0, 0, 0), (.dup, 0, 0, 0), (.sipush 1, 0, 0, 0), (.sipush 101, 0, 0, 0), (.castore, 0, 0, 0), (.dup, 0, 0, 0), (.sipush 2, 0, 0, 0), (.sipush 97, 0, 0, 0), (.castore, 0, 0, 0), (.dup, 0, 0, 0), (.sipush 3, 0, 0, 0), (.sipush 114, 0, 0, 0), (.castore, 0, 0, 0), (.putfield 2, 12, 12, 0), (.aload 0, 0, 0, 0), (.sipush 4, 0, 0, 0), (.newarray .char, 22, 0, 0), (.dup, 0, 0, 0), (.sipush 0, 0, 0, 0), (.sipush 97, 0, 0, 0), (.castore, 0, 0, 0), (.dup, 0, 0, 0), (.sipush 1, 0, 0, 0), (.sipush 117, 0, 0, 0), (.castore, 0, 0, 0)]
def mk_151_1 : List mI := [(.dup, 0, 0, 0), (.sipush 2, 0, 0, 0), (.sipush 110, 0, 0, 0), (.castore, 0, 0, 0), (.dup, 0, 0, 0), (.sipush 3, 0, 0, 0), (.sipush 116, 0, 0, 0), (.castore, 0, 0, 0), (.putfield 2, 12, 13, 0), (.aload 0, 0, 0, 0), (.sipush 4, 0, 0, 0), (.newarray .char, 22, 0, 0), (.dup, 0, 0, 0), (.sipush 0, 0, 0, 0), (.sipush 100, 0, 0, 0), (.castore, 0, 0, 0), (.dup, 0, 0, 0), (.sipush 1, 0, 0, 0), (.sipush 101, 0, 0, 0), (.castore, 0, 0, 0), (.dup, 0, 0, 0), (.sipush 2, 0, 0, 0), (.sipush 97, 0, 0, 0), (.castore, 0, 0, 0), (.dup, 0, 0, 0), (.sipush 3, 0, 0, 0), (.sipush 102, 0, 0, 0), (.castore, 0, 0, 0), (.putfield 2, 12, 14, 0), (.aload 0, 0, 0, 0), (.sipush 4, 0, 0, 0), (.newarray .char, 22, 0, 0), (.dup, 0, 0, 0), (.sipush 0, 0, 0, 0), (.sipush 115, 0, 0, 0), (.castore, 0, 0, 0), (.dup, 0, 0, 0), (.sipush 1, 0, 0, 0), (.sipush 97, 0, 0, 0), (.castore, 0, 0, 0), (.dup, 0, 0, 0), (.sipush 2, 0, 0, 0), (.sipush 121, 0, 0, 0), (.castore, 0, 0, 0), (.dup, 0, 0, 0), (.sipush 3, 0, 0, 0), (.sipush 115, 0, 0, 0), (.castore, 0, 0, 0), (.putfield 2, 12, 15, 0), (.aload 0, 0, 0, 0), (.sipush 5, 0, 0, 0), (.newarray .char, 22, 0, 0), (.dup, 0, 0, 0), (.sipush 0, 0, 0, 0), (.sipush 114, 0, 0, 0), (.castore, 0, 0, 0), (.dup, 0, 0, 0), (.sipush 1, 0, 0, 0), (.sipush 105, 0, 0, 0), (.castore, 0, 0, 0), (.dup, 0, 0, 0), (.sipush 2, 0, 0, 0), (.sipush 118, 0, 0, 0), (.castore, 0, 0, 0), (.dup, 0, 0, 0), (.sipush 3, 0, 0, 0), (.sipush 97, 0, 0, 0), (.castore, 0, 0, 0), (.dup, 0, 0, 0), (.sipush 4, 0, 0, 0), (.sipush 108, 0, 0, 0), (.castore, 0, 0, 0), (.putfield 2, 12, 16, 0), (.aload 0, 0, 0, 0), (.sipush 5, 0, 0, 0), (.newarray .char, 22, 0, 0), (.dup, 0, 0, 0), (.sipush 0, 0, 0, 0), (.sipush 116, 0, 0, 0), (.castore, 0, 0, 0)]
def mk_151_2 : List mI := [(.dup, 0, 0, 0), (.sipush 1, 0, 0, 0), (.sipush 117, 0, 0, 0), (.castore, 0, 0, 0), (.dup, 0, 0, 0), (.sipush 2, 0, 0, 0), (.sipush 114, 0, 0, 0), (.castore, 0, 0, 0), (.dup, 0, 0, 0), (.sipush 3, 0, 0, 0), (.sipush 110, 0, 0, 0), (.castore, 0, 0, 0), (.dup, 0, 0, 0), (.sipush 4, 0, 0, 0), (.sipush 115, 0, 0, 0), (.castore, 0, 0, 0), (.putfield 2, 12, 17, 0), (.aload 0, 0, 0, 0), (.sipush 4, 0, 0, 0), (.newarray .char, 22, 0, 0), (.dup, 0, 0, 0), (.sipush 0, 0, 0, 0), (.sipush 103, 0, 0, 0), (.castore, 0, 0, 0), (.dup, 0, 0, 0), (.sipush 1, 0, 0, 0), (.sipush 97, 0, 0, 0), (.castore, 0, 0, 0), (.dup, 0, 0, 0), (.sipush 2, 0, 0, 0), (.sipush 108, 0, 0, 0), (.castore, 0, 0, 0), (.dup, 0, 0, 0), (.sipush 3, 0, 0, 0), (.sipush 101, 0, 0, 0), (.castore, 0, 0, 0), (.putfield 2, 12, 18, 0), (.aload 0, 0, 0, 0), (.sipush 4, 0, 0, 0), (.newarray .char, 22, 0, 0), (.dup, 0, 0, 0), (.sipush 0, 0, 0, 0), (.sipush 115, 0, 0, 0), (.castore, 0, 0, 0), (.dup, 0, 0, 0), (.sipush 1, 0, 0, 0), (.sipush 108, 0, 0, 0), (.castore, 0, 0, 0), (.dup, 0, 0, 0), (.sipush 2, 0, 0, 0), (.sipush 105, 0, 0, 0), (.castore, 0, 0, 0), (.dup, 0, 0, 0), (.sipush 3, 0, 0, 0), (.sipush 112, 0, 0, 0), (.castore, 0, 0, 0), (.putfield 2, 12, 19, 0), (.aload 0, 0, 0, 0), (.sipush 4, 0, 0, 0), (.newarray .char, 22, 0, 0), (.dup, 0, 0, 0), (.sipush 0, 0, 0, 0), (.sipush 109, 0, 0, 0), (.castore, 0, 0, 0), (.dup, 0, 0, 0), (.sipush 1, 0, 0, 0), (.sipush 111, 0, 0, 0), (.castore, 0, 0, 0), (.dup, 0, 0, 0), (.sipush 2, 0, 0, 0), (.sipush 115, 0, 0, 0), (.castore, 0, 0, 0), (.dup, 0, 0, 0), (.sipush 3, 0, 0, 0), (.sipush 116, 0, 0, 0), (.castore, 0, 0, 0), (.putfield 2, 12, 20, 0), (.aload 0, 0, 0, 0), (.sipush 5, 0, 0, 0), (.newarray .char, 22, 0, 0)]
def mk_151_3 : List mI := [(.dup, 0, 0, 0), (.sipush 0, 0, 0, 0), (.sipush 108, 0, 0, 0), (.castore, 0, 0, 0), (.dup, 0, 0, 0), (.sipush 1, 0, 0, 0), (.sipush 101, 0, 0, 0), (.castore, 0, 0, 0), (.dup, 0, 0, 0), (.sipush 2, 0, 0, 0), (.sipush 97, 0, 0, 0), (.castore, 0, 0, 0), (.dup, 0, 0, 0), (.sipush 3, 0, 0, 0), (.sipush 115, 0, 0, 0), (.castore, 0, 0, 0), (.dup, 0, 0, 0), (.sipush 4, 0, 0, 0), (.sipush 116, 0, 0, 0), (.castore, 0, 0, 0), (.putfield 2, 12, 21, 0), (.aload 0, 0, 0, 0), (.sipush 5, 0, 0, 0), (.newarray .char, 22, 0, 0), (.dup, 0, 0, 0), (.sipush 0, 0, 0, 0), (.sipush 110, 0, 0, 0), (.castore, 0, 0, 0), (.dup, 0, 0, 0), (.sipush 1, 0, 0, 0), (.sipush 105, 0, 0, 0), (.castore, 0, 0, 0), (.dup, 0, 0, 0), (.sipush 2, 0, 0, 0), (.sipush 103, 0, 0, 0), (.castore, 0, 0, 0), (.dup, 0, 0, 0), (.sipush 3, 0, 0, 0), (.sipush 104, 0, 0, 0), (.castore, 0, 0, 0), (.dup, 0, 0, 0), (.sipush 4, 0, 0, 0), (.sipush 116, 0, 0, 0), (.castore, 0, 0, 0), (.putfield 2, 12, 22, 0), (.aload 0, 0, 0, 0), (.sipush 5, 0, 0, 0), (.newarray .char, 22, 0, 0), (.dup, 0, 0, 0), (.sipush 0, 0, 0, 0), (.sipush 103, 0, 0, 0), (.castore, 0, 0, 0), (.dup, 0, 0, 0), (.sipush 1, 0, 0, 0), (.sipush 97, 0, 0, 0), (.castore, 0, 0, 0), (.dup, 0, 0, 0), (.sipush 2, 0, 0, 0), (.sipush 108, 0, 0, 0), (.castore, 0, 0, 0), (.dup, 0, 0, 0), (.sipush 3, 0, 0, 0), (.sipush 101, 0, 0, 0), (.castore, 0, 0, 0), (.dup, 0, 0, 0), (.sipush 4, 0, 0, 0), (.sipush 115, 0, 0, 0), (.castore, 0, 0, 0), (.putfield 2, 12, 23, 0), (.aload 0, 0, 0, 0), (.sipush 4, 0, 0, 0), (.newarray .char, 22, 0, 0), (.dup, 0, 0, 0), (.sipush 0, 0, 0, 0), (.sipush 116, 0, 0, 0), (.castore, 0, 0, 0), (.dup, 0, 0, 0), (.sipush 1, 0, 0, 0), (.sipush 111, 0, 0, 0), (.castore, 0, 0, 0)]
def mk_151_4 : List mI := [(.dup, 0, 0, 0), (.sipush 2, 0, 0, 0), (.sipush 108, 0, 0, 0), (.castore, 0, 0, 0), (.dup, 0, 0, 0), (.sipush 3, 0, 0, 0), (.sipush 100, 0, 0, 0), (.castore, 0, 0, 0), (.putfield 2, 12, 24, 0), (.aload 0, 0, 0, 0), (.sipush 6, 0, 0, 0), (.newarray .char, 22, 0, 0), (.dup, 0, 0, 0), (.sipush 0, 0, 0, 0), (.sipush 110, 0, 0, 0), (.castore, 0, 0, 0), (.dup, 0, 0, 0), (.sipush 1, 0, 0, 0), (.sipush 117, 0, 0, 0), (.castore, 0, 0, 0), (.dup, 0, 0, 0), (.sipush 2, 0, 0, 0), (.sipush 109, 0, 0, 0), (.castore, 0, 0, 0), (.dup, 0, 0, 0), (.sipush 3, 0, 0, 0), (.sipush 98, 0, 0, 0), (.castore, 0, 0, 0), (.dup, 0, 0, 0), (.sipush 4, 0, 0, 0), (.sipush 101, 0, 0, 0), (.castore, 0, 0, 0), (.dup, 0, 0, 0), (.sipush 5, 0, 0, 0), (.sipush 114, 0, 0, 0), (.castore, 0, 0, 0), (.putfield 2, 12, 25, 0), (.aload 0, 0, 0, 0), (.sipush 4, 0, 0, 0), (.newarray .char, 22, 0, 0), (.dup, 0, 0, 0), (.sipush 0, 0, 0, 0), (.sipush 114, 0, 0, 0), (.castore, 0, 0, 0), (.dup, 0, 0, 0), (.sipush 1, 0, 0, 0), (.sipush 101, 0, 0, 0), (.castore, 0, 0, 0), (.dup, 0, 0, 0), (.sipush 2, 0, 0, 0), (.sipush 97, 0, 0, 0), (.castore, 0, 0, 0), (.dup, 0, 0, 0), (.sipush 3, 0, 0, 0), (.sipush 100, 0, 0, 0), (.castore, 0, 0, 0), (.putfield 2, 12, 26, 0), (.aload 0, 0, 0, 0), (.sipush 5, 0, 0, 0), (.newarray .char, 22, 0, 0), (.dup, 0, 0, 0), (.sipush 0, 0, 0, 0), (.sipush 102, 0, 0, 0), (.castore, 0, 0, 0), (.dup, 0, 0, 0), (.sipush 1, 0, 0, 0), (.sipush 105, 0, 0, 0), (.castore, 0, 0, 0), (.dup, 0, 0, 0), (.sipush 2, 0, 0, 0), (.sipush 114, 0, 0, 0), (.castore, 0, 0, 0), (.dup, 0, 0, 0), (.sipush 3, 0, 0, 0), (.sipush 115, 0, 0, 0), (.castore, 0, 0, 0), (.dup, 0, 0, 0), (.sipush 4, 0, 0, 0), (.sipush 116, 0, 0, 0), (.castore, 0, 0, 0)]
def mk_151_5 : List mI := [(.putfield 2, 12, 27, 0), (.aload 0, 0, 0, 0), (.sipush 2, 0, 0, 0), (.newarray .char, 22, 0, 0), (.dup, 0, 0, 0), (.sipush 0, 0, 0, 0), (.sipush 111, 0, 0, 0), (.castore, 0, 0, 0), (.dup, 0, 0, 0), (.sipush 1, 0, 0, 0), (.sipush 114, 0, 0, 0), (.castore, 0, 0, 0), (.putfield 2, 12, 28, 0), (.aload 0, 0, 0, 0), (.sipush 3, 0, 0, 0), (.newarray .char, 22, 0, 0), (.dup, 0, 0, 0), (.sipush 0, 0, 0, 0), (.sipush 97, 0, 0, 0), (.castore, 0, 0, 0), (.dup, 0, 0, 0), (.sipush 1, 0, 0, 0), (.sipush 110, 0, 0, 0), (.castore, 0, 0, 0), (.dup, 0, 0, 0), (.sipush 2, 0, 0, 0), (.sipush 100, 0, 0, 0), (.castore, 0, 0, 0), (.putfield 2, 12, 29, 0), (.aload 0, 0, 0, 0), (.sipush 3, 0, 0, 0), (.newarray .char, 22, 0, 0), (.dup, 0, 0, 0), (.sipush 0, 0, 0, 0), (.sipush 110, 0, 0, 0), (.castore, 0, 0, 0), (.dup, 0, 0, 0), (.sipush 1, 0, 0, 0), (.sipush 111, 0, 0, 0), (.castore, 0, 0, 0), (.dup, 0, 0, 0), (.sipush 2, 0, 0, 0), (.sipush 116, 0, 0, 0), (.castore, 0, 0, 0), (.putfield 2, 12, 30, 0), (.aload 0, 0, 0, 0), (.sipush 3, 0, 0, 0), (.newarray .char, 22, 0, 0), (.dup, 0, 0, 0), (.sipush 0, 0, 0, 0), (.sipush 97, 0, 0, 0), (.castore, 0, 0, 0), (.dup, 0, 0, 0), (.sipush 1, 0, 0, 0), (.sipush 108, 0, 0, 0), (.castore, 0, 0, 0), (.dup, 0, 0, 0), (.sipush 2, 0, 0, 0), (.sipush 108, 0, 0, 0), (.castore, 0, 0, 0), (.putfield 2, 12, 31, 0), (.aload 0, 0, 0, 0), (.sipush 3, 0, 0, 0), (.newarray .char, 22, 0, 0), (.dup, 0, 0, 0), (.sipush 0, 0, 0, 0), (.sipush 109, 0, 0, 0), (.castore, 0, 0, 0), (.dup, 0, 0, 0), (.sipush 1, 0, 0, 0), (.sipush 105, 0, 0, 0), (.castore, 0, 0, 0), (.dup, 0, 0, 0), (.sipush 2, 0, 0, 0), (.sipush 110, 0, 0, 0), (.castore, 0, 0, 0), (.putfield 2, 12, 32, 0), (.aload 0, 0, 0, 0), (.sipush 3, 0, 0, 0), (.newarray .char, 22, 0, 0)]
def mk_151_6 : List mI := [(.dup, 0, 0, 0), (.sipush 0, 0, 0, 0), (.sipush 109, 0, 0, 0), (.castore, 0, 0, 0), (.dup, 0, 0, 0), (.sipush 1, 0, 0, 0), (.sipush 97, 0, 0, 0), (.castore, 0, 0, 0), (.dup, 0, 0, 0), (.sipush 2, 0, 0, 0), (.sipush 120, 0, 0, 0), (.castore, 0, 0, 0), (.putfield 2, 12, 33, 0), (.aload 0, 0, 0, 0), (.sipush 4, 0, 0, 0), (.newarray .int, 20, 0, 0), (.putfield 2, 12, 35, 0), (.aload 0, 0, 0, 0), (.sipush 14, 0, 0, 0), (.newarray .long, 21, 0, 0), (.putfield 2, 12, 36, 0), (.aload 0, 0, 0, 0), (.sipush 7, 0, 0, 0), (.newarray .int, 20, 0, 0), (.putfield 2, 12, 37, 0), (.aload 0, 0, 0, 0), (.sipush 14, 0, 0, 0), (.newarray .int, 20, 0, 0), (.putfield 2, 12, 38, 0), (.aload 0, 0, 0, 0), (.sipush 2, 0, 0, 0), (.newarray .int, 20, 0, 0), (.putfield 2, 12, 39, 0), (.aload 0, 0, 0, 0), (.sipush 4, 0, 0, 0), (.newarray .int, 20, 0, 0), (.dup, 0, 0, 0), (.sipush 0, 0, 0, 0), (.sipush 15, 0, 0, 0), (.iastore, 0, 0, 0), (.dup, 0, 0, 0), (.sipush 1, 0, 0, 0), (.sipush 0, 0, 0, 0), (.iastore, 0, 0, 0), (.dup, 0, 0, 0), (.sipush 2, 0, 0, 0), (.sipush 15, 0, 0, 0), (.iastore, 0, 0, 0), (.dup, 0, 0, 0), (.sipush 3, 0, 0, 0), (.sipush 0, 0, 0, 0), (.iastore, 0, 0, 0), (.putfield 2, 12, 40, 0), (.aload 0, 0, 0, 0), (.sipush 6, 0, 0, 0), (.newarray .int, 20, 0, 0), (.dup, 0, 0, 0), (.sipush 0, 0, 0, 0), (.sipush (-1), 0, 0, 0), (.iastore, 0, 0, 0), (.dup, 0, 0, 0), (.sipush 1, 0, 0, 0), (.sipush (-1), 0, 0, 0), (.iastore, 0, 0, 0), (.dup, 0, 0, 0), (.sipush 2, 0, 0, 0), (.sipush (-1), 0, 0, 0), (.iastore, 0, 0, 0), (.dup, 0, 0, 0), (.sipush 3, 0, 0, 0), (.sipush (-1), 0, 0, 0), (.iastore, 0, 0, 0), (.dup, 0, 0, 0), (.sipush 4, 0, 0, 0), (.sipush (-1), 0, 0, 0), (.iastore, 0, 0, 0), (.dup, 0, 0, 0), (.sipush 5, 0, 0, 0), (.sipush (-1), 0, 0, 0), (.iastore, 0, 0, 0)]
def mk_151_7 : List mI := [(.putfield 2, 12, 41, 0), (.aload 0, 0, 0, 0), (.sipush 6, 0, 0, 0), (.newarray .int, 20, 0, 0), (.putfield 2, 12, 42, 0), (.aload 0, 0, 0, 0), (.sipush 3200, 0, 0, 0), (.newarray .int, 20, 0, 0), (.putfield 2, 12, 43, 0), (.aload 0, 0, 0, 0), (.sipush 150, 0, 0, 0), (.newarray .int, 20, 0, 0), (.putfield 2, 12, 47, 0), (.aload 0, 0, 0, 0), (.sipush 29, 0, 0, 0), (.newarray .int, 20, 0, 0), (.putfield 2, 12, 48, 0), (.aload 0, 0, 0, 0), (.sipush 7, 0, 0, 0), (.newarray .int, 20, 0, 0), (.putfield 2, 12, 49, 0), (.aload 0, 0, 0, 0), (.sipush 7, 0, 0, 0), (.newarray .int, 20, 0, 0), (.putfield 2, 12, 50, 0), (.aload 0, 0, 0, 0), (.sipush 7, 0, 0, 0), (.newarray .int, 20, 0, 0), (.putfield 2, 12, 51, 0), (.aload 0, 0, 0, 0), (.sipush 7, 0, 0, 0), (.newarray .int, 20, 0, 0), (.putfield 2, 12, 52, 0), (.aload 0, 0, 0, 0), (.sipush 896, 0, 0, 0), (.newarray .int, 20, 0, 0), (.putfield 2, 12, 57, 0), (.aload 0, 0, 0, 0), (.sipush 48, 0, 0, 0), (.newarray .int, 20, 0, 0), (.putfield 2, 12, 59, 0), (.aload 0, 0, 0, 0), (.sipush 651, 0, 0, 0), (.newarray .int, 20, 0, 0), (.putfield 2, 12, 60, 0), (.aload 0, 0, 0, 0), (.sipush 21, 0, 0, 0), (.newarray .boolean, 23, 0, 0), (.putfield 2, 12, 61, 0), (.aload 0, 0, 0, 0), (.sipush 21, 0, 0, 0), (.newarray .int, 20, 0, 0), (.putfield 2, 12, 63, 0), (.aload 0, 0, 0, 0), (.sipush 3000, 0, 0, 0), (.newarray .int, 20, 0, 0), (.putfield 2, 12, 64, 0), (.aload 0, 0, 0, 0), (.jsr 1, 0, 0, 0), (.putfield 1, 12, 67, 0), (.aload 0, 0, 0, 0), (.sipush 5, 0, 0, 0), (.newarray .char, 22, 0, 0), (.dup, 0, 0, 0), (.sipush 0, 0, 0, 0), (.sipush 102, 0, 0, 0), (.castore, 0, 0, 0), (.dup, 0, 0, 0), (.sipush 1, 0, 0, 0), (.sipush 105, 0, 0, 0), (.castore, 0, 0, 0), (.dup, 0, 0, 0), (.sipush 2, 0, 0, 0), (.sipush 114, 0, 0, 0), (.castore, 0, 0, 0), (.dup, 0, 0, 0), (.sipush 3, 0, 0, 0), (.sipush 115, 0, 0, 0), (.castore, 0, 0, 0), (.dup, 0, 0, 0)]
def mk_151_8 : List mI := [(.sipush 4, 0, 0, 0), (.sipush 116, 0, 0, 0), (.castore, 0, 0, 0), (.putfield 2, 12, 68, 0), (.aload 0, 0, 0, 0), (.sipush 4, 0, 0, 0), (.newarray .char, 22, 0, 0), (.dup, 0, 0, 0), (.sipush 0, 0, 0, 0), (.sipush 108, 0, 0, 0), (.castore, 0, 0, 0), (.dup, 0, 0, 0), (.sipush 1, 0, 0, 0), (.sipush 97, 0, 0, 0), (.castore, 0, 0, 0), (.dup, 0, 0, 0), (.sipush 2, 0, 0, 0), (.sipush 115, 0, 0, 0), (.castore, 0, 0, 0), (.dup, 0, 0, 0), (.sipush 3, 0, 0, 0), (.sipush 116, 0, 0, 0), (.castore, 0, 0, 0), (.putfield 2, 12, 69, 0), (.aload 0, 0, 0, 0), (.sipush 5, 0, 0, 0), (.newarray .char, 22, 0, 0), (.dup, 0, 0, 0), (.sipush 0, 0, 0, 0), (.sipush 111, 0, 0, 0), (.castore, 0, 0, 0), (.dup, 0, 0, 0), (.sipush 1, 0, 0, 0), (.sipush 102, 0, 0, 0), (.castore, 0, 0, 0), (.dup, 0, 0, 0), (.sipush 2, 0, 0, 0), (.sipush 116, 0, 0, 0), (.castore, 0, 0, 0), (.dup, 0, 0, 0), (.sipush 3, 0, 0, 0), (.sipush 101, 0, 0, 0), (.castore, 0, 0, 0), (.dup, 0, 0, 0), (.sipush 4, 0, 0, 0), (.sipush 110, 0, 0, 0), (.castore, 0, 0, 0), (.putfield 2, 12, 70, 0), (.aload 0, 0, 0, 0), (.sipush 5, 0, 0, 0), (.newarray .char, 22, 0, 0), (.dup, 0, 0, 0), (.sipush 0, 0, 0, 0), (.sipush 116, 0, 0, 0), (.castore, 0, 0, 0), (.dup, 0, 0, 0), (.sipush 1, 0, 0, 0), (.sipush 111, 0, 0, 0), (.castore, 0, 0, 0), (.dup, 0, 0, 0), (.sipush 2, 0, 0, 0), (.sipush 116, 0, 0, 0), (.castore, 0, 0, 0), (.dup, 0, 0, 0), (.sipush 3, 0, 0, 0), (.sipush 97, 0, 0, 0), (.castore, 0, 0, 0), (.dup, 0, 0, 0), (.sipush 4, 0, 0, 0), (.sipush 108, 0, 0, 0), (.castore, 0, 0, 0), (.putfield 2, 12, 71, 0), (.aload 0, 0, 0, 0), (.sipush 4, 0, 0, 0), (.newarray .char, 22, 0, 0), (.dup, 0, 0, 0), (.sipush 0, 0, 0, 0), (.sipush 109, 0, 0, 0), (.castore, 0, 0, 0), (.dup, 0, 0, 0)]
def mk_151_9 : List mI := [(.sipush 1, 0, 0, 0), (.sipush 111, 0, 0, 0), (.castore, 0, 0, 0), (.dup, 0, 0, 0), (.sipush 2, 0, 0, 0), (.sipush 115, 0, 0, 0), (.castore, 0, 0, 0), (.dup, 0, 0, 0), (.sipush 3, 0, 0, 0), (.sipush 116, 0, 0, 0), (.castore, 0, 0, 0), (.putfield 2, 12, 72, 0), (.aload 0, 0, 0, 0), (.sipush 5, 0, 0, 0), (.newarray .char, 22, 0, 0), (.dup, 0, 0, 0), (.sipush 0, 0, 0, 0), (.sipush 108, 0, 0, 0), (.castore, 0, 0, 0), (.dup, 0, 0, 0), (.sipush 1, 0, 0, 0), (.sipush 101, 0, 0, 0), (.castore, 0, 0, 0), (.dup, 0, 0, 0), (.sipush 2, 0, 0, 0), (.sipush 97, 0, 0, 0), (.castore, 0, 0, 0), (.dup, 0, 0, 0), (.sipush 3, 0, 0, 0), (.sipush 115, 0, 0, 0), (.castore, 0, 0, 0), (.dup, 0, 0, 0), (.sipush 4, 0, 0, 0), (.sipush 116, 0, 0, 0), (.castore, 0, 0, 0), (.putfield 2, 12, 73, 0), (.aload 0, 0, 0, 0), (.sipush 3, 0, 0, 0), (.newarray .char, 22, 0, 0), (.dup, 0, 0, 0), (.sipush 0, 0, 0, 0), (.sipush 110, 0, 0, 0), (.castore, 0, 0, 0), (.dup, 0, 0, 0), (.sipush 1, 0, 0, 0), (.sipush 111, 0, 0, 0), (.castore, 0, 0, 0), (.dup, 0, 0, 0), (.sipush 2, 0, 0, 0), (.sipush 116, 0, 0, 0), (.castore, 0, 0, 0), (.putfield 2, 12, 74, 0), (.aload 0, 0, 0, 0), (.sipush 3, 0, 0, 0), (.newarray .char, 22, 0, 0), (.dup, 0, 0, 0), (.sipush 0, 0, 0, 0), (.sipush 97, 0, 0, 0), (.castore, 0, 0, 0), (.dup, 0, 0, 0), (.sipush 1, 0, 0, 0), (.sipush 110, 0, 0, 0), (.castore, 0, 0, 0), (.dup, 0, 0, 0), (.sipush 2, 0, 0, 0), (.sipush 100, 0, 0, 0), (.castore, 0, 0, 0), (.putfield 2, 12, 75, 0), (.aload 0, 0, 0, 0), (.sipush 2, 0, 0, 0), (.newarray .char, 22, 0, 0), (.dup, 0, 0, 0), (.sipush 0, 0, 0, 0), (.sipush 111, 0, 0, 0), (.castore, 0, 0, 0), (.dup, 0, 0, 0), (.sipush 1, 0, 0, 0), (.sipush 114, 0, 0, 0), (.castore, 0, 0, 0), (.putfield 2, 12, 76, 0)]
def mk_151_10 : List mI := [(.aload 0, 0, 0, 0), (.sipush 3, 0, 0, 0), (.newarray .char, 22, 0, 0), (.dup, 0, 0, 0), (.sipush 0, 0, 0, 0), (.sipush 97, 0, 0, 0), (.castore, 0, 0, 0), (.dup, 0, 0, 0), (.sipush 1, 0, 0, 0), (.sipush 108, 0, 0, 0), (.castore, 0, 0, 0), (.dup, 0, 0, 0), (.sipush 2, 0, 0, 0), (.sipush 108, 0, 0, 0), (.castore, 0, 0, 0), (.putfield 2, 12, 77, 0), (.aload 0, 0, 0, 0), (.sipush 3, 0, 0, 0), (.newarray .char, 22, 0, 0), (.dup, 0, 0, 0), (.sipush 0, 0, 0, 0), (.sipush 109, 0, 0, 0), (.castore, 0, 0, 0), (.dup, 0, 0, 0), (.sipush 1, 0, 0, 0), (.sipush 105, 0, 0, 0), (.castore, 0, 0, 0), (.dup, 0, 0, 0), (.sipush 2, 0, 0, 0), (.sipush 110, 0, 0, 0), (.castore, 0, 0, 0), (.putfield 2, 12, 78, 0), (.aload 0, 0, 0, 0), (.sipush 3, 0, 0, 0), (.newarray .char, 22, 0, 0), (.dup, 0, 0, 0), (.sipush 0, 0, 0, 0), (.sipush 109, 0, 0, 0), (.castore, 0, 0, 0), (.dup, 0, 0, 0), (.sipush 1, 0, 0, 0), (.sipush 97, 0, 0, 0), (.castore, 0, 0, 0), (.dup, 0, 0, 0), (.sipush 2, 0, 0, 0), (.sipush 120, 0, 0, 0), (.castore, 0, 0, 0), (.putfield 2, 12, 79, 0), (.aload 0, 0, 0, 0), (.sipush 3, 0, 0, 0), (.newarray .char, 22, 0, 0), (.dup, 0, 0, 0), (.sipush 0, 0, 0, 0), (.sipush 97, 0, 0, 0), (.castore, 0, 0, 0), (.dup, 0, 0, 0), (.sipush 1, 0, 0, 0), (.sipush 105, 0, 0, 0), (.castore, 0, 0, 0), (.dup, 0, 0, 0), (.sipush 2, 0, 0, 0), (.sipush 114, 0, 0, 0), (.castore, 0, 0, 0), (.putfield 2, 12, 80, 0), (.aload 0, 0, 0, 0), (.sipush 5, 0, 0, 0), (.newarray .char, 22, 0, 0), (.dup, 0, 0, 0), (.sipush 0, 0, 0, 0), (.sipush 110, 0, 0, 0), (.castore, 0, 0, 0), (.dup, 0, 0, 0), (.sipush 1, 0, 0, 0), (.sipush 105, 0, 0, 0), (.castore, 0, 0, 0), (.dup, 0, 0, 0), (.sipush 2, 0, 0, 0), (.sipush 103, 0, 0, 0), (.castore, 0, 0, 0), (.dup, 0, 0, 0)]
def mk_151_11 : List mI := [(.sipush 3, 0, 0, 0), (.sipush 104, 0, 0, 0), (.castore, 0, 0, 0), (.dup, 0, 0, 0), (.sipush 4, 0, 0, 0), (.sipush 116, 0, 0, 0), (.castore, 0, 0, 0), (.putfield 2, 12, 81, 0), (.aload 0, 0, 0, 0), (.sipush 5, 0, 0, 0), (.newarray .char, 22, 0, 0), (.dup, 0, 0, 0), (.sipush 0, 0, 0, 0), (.sipush 103, 0, 0, 0), (.castore, 0, 0, 0), (.dup, 0, 0, 0), (.sipush 1, 0, 0, 0), (.sipush 97, 0, 0, 0), (.castore, 0, 0, 0), (.dup, 0, 0, 0), (.sipush 2, 0, 0, 0), (.sipush 108, 0, 0, 0), (.castore, 0, 0, 0), (.dup, 0, 0, 0), (.sipush 3, 0, 0, 0), (.sipush 101, 0, 0, 0), (.castore, 0, 0, 0), (.dup, 0, 0, 0), (.sipush 4, 0, 0, 0), (.sipush 115, 0, 0, 0), (.castore, 0, 0, 0), (.putfield 2, 12, 82, 0), (.aload 0, 0, 0, 0), (.sipush 4, 0, 0, 0), (.newarray .char, 22, 0, 0), (.dup, 0, 0, 0), (.sipush 0, 0, 0, 0), (.sipush 116, 0, 0, 0), (.castore, 0, 0, 0), (.dup, 0, 0, 0), (.sipush 1, 0, 0, 0), (.sipush 111, 0, 0, 0), (.castore, 0, 0, 0), (.dup, 0, 0, 0), (.sipush 2, 0, 0, 0), (.sipush 108, 0, 0, 0), (.castore, 0, 0, 0), (.dup, 0, 0, 0), (.sipush 3, 0, 0, 0), (.sipush 100, 0, 0, 0), (.castore, 0, 0, 0), (.putfield 2, 12, 83, 0), (.aload 0, 0, 0, 0), (.sipush 6, 0, 0, 0), (.newarray .char, 22, 0, 0), (.dup, 0, 0, 0), (.sipush 0, 0, 0, 0), (.sipush 110, 0, 0, 0), (.castore, 0, 0, 0), (.dup, 0, 0, 0), (.sipush 1, 0, 0, 0), (.sipush 117, 0, 0, 0), (.castore, 0, 0, 0), (.dup, 0, 0, 0), (.sipush 2, 0, 0, 0), (.sipush 109, 0, 0, 0), (.castore, 0, 0, 0), (.dup, 0, 0, 0), (.sipush 3, 0, 0, 0), (.sipush 98, 0, 0, 0), (.castore, 0, 0, 0), (.dup, 0, 0, 0), (.sipush 4, 0, 0, 0), (.sipush 101, 0, 0, 0), (.castore, 0, 0, 0), (.dup, 0, 0, 0), (.sipush 5, 0, 0, 0), (.sipush 114, 0, 0, 0), (.castore, 0, 0, 0), (.putfield 2, 12, 84, 0)]
def mk_151_12 : List mI := [(.aload 0, 0, 0, 0), (.sipush 4, 0, 0, 0), (.newarray .char, 22, 0, 0), (.dup, 0, 0, 0), (.sipush 0, 0, 0, 0), (.sipush 97, 0, 0, 0), (.castore, 0, 0, 0), (.dup, 0, 0, 0), (.sipush 1, 0, 0, 0), (.sipush 117, 0, 0, 0), (.castore, 0, 0, 0), (.dup, 0, 0, 0), (.sipush 2, 0, 0, 0), (.sipush 110, 0, 0, 0), (.castore, 0, 0, 0), (.dup, 0, 0, 0), (.sipush 3, 0, 0, 0), (.sipush 116, 0, 0, 0), (.castore, 0, 0, 0), (.putfield 2, 12, 85, 0), (.aload 0, 0, 0, 0), (.sipush 4, 0, 0, 0), (.newarray .char, 22, 0, 0), (.dup, 0, 0, 0), (.sipush 0, 0, 0, 0), (.sipush 100, 0, 0, 0), (.castore, 0, 0, 0), (.dup, 0, 0, 0), (.sipush 1, 0, 0, 0), (.sipush 101, 0, 0, 0), (.castore, 0, 0, 0), (.dup, 0, 0, 0), (.sipush 2, 0, 0, 0), (.sipush 97, 0, 0, 0), (.castore, 0, 0, 0), (.dup, 0, 0, 0), (.sipush 3, 0, 0, 0), (.sipush 102, 0, 0, 0), (.castore, 0, 0, 0), (.putfield 2, 12, 86, 0), (.aload 0, 0, 0, 0), (.sipush 4, 0, 0, 0), (.newarray .char, 22, 0, 0), (.dup, 0, 0, 0), (.sipush 0, 0, 0, 0), (.sipush 110, 0, 0, 0), (.castore, 0, 0, 0), (.dup, 0, 0, 0), (.sipush 1, 0, 0, 0), (.sipush 101, 0, 0, 0), (.castore, 0, 0, 0), (.dup, 0, 0, 0), (.sipush 2, 0, 0, 0), (.sipush 97, 0, 0, 0), (.castore, 0, 0, 0), (.dup, 0, 0, 0), (.sipush 3, 0, 0, 0), (.sipush 114, 0, 0, 0), (.castore, 0, 0, 0), (.putfield 2, 12, 87, 0), (.aload 0, 0, 0, 0), (.sipush 1700, 0, 0, 0), (.newarray .int, 20, 0, 0), (.putfield 2, 12, 88, 0), (.aload 0, 0, 0, 0), (.sipush 1700, 0, 0, 0), (.newarray .int, 20, 0, 0), (.putfield 2, 12, 90, 0), (.aload 0, 0, 0, 0), (.sipush 1700, 0, 0, 0), (.newarray .long, 21, 0, 0), (.putfield 2, 12, 94, 0), (.aload 0, 0, 0, 0), (.sipush 24, 0, 0, 0), (.newarray .int, 20, 0, 0), (.putfield 2, 12, 98, 0), (.return_, 0, 0, 0)]
def mk_151 : List (List mI) := [(mk_151_0 ++ (mk_151_1 ++ (mk_151_2 ++ (mk_151_3 ++ (mk_151_4 ++ (mk_151_5 ++ (mk_151_6 ++ (mk_151_7 ++ (mk_151_8 ++ (mk_151_9 ++ (mk_151_10 ++ (mk_151_11 ++ mk_151_12))))))))))))]
def mk_152 : List (List mI) := [
  [(.lload 0, 0, 0, 0), (.lload 2, 0, 0, 0), (.lcmp, 0, 0, 0), (.ifCond .lt 0, 1, 0, 0), (.lload 0, 0, 0, 0), (.lload 4, 0, 0, 0), (.lcmp, 0, 0, 0), (.ifCond .gt 0, 1, 0, 0), (.sipush 1, 0, 0, 0), (.goto 0, 2, 0, 0)],
  [(.sipush 0, 0, 0, 0)],
  [(.ireturn, 1, 0, 0)]]
def mk_153 : List (List mI) := [
  [(.aload 0, 0, 0, 0), (.getfield 0, 12, 1, 0), (.sipush 20, 0, 0, 0), (.iadd, 0, 0, 0), (.sipush 1600, 0, 0, 0), (.if_icmp .le 0, 1, 0, 0), (.aload 0, 0, 0, 0), (.getfield 2, 12, 9, 0), (.sipush 0, 0, 0, 0), (.dup2, 0, 0, 0), (.iaload, 0, 0, 0), (.sipush 1, 0, 0, 0), (.iadd, 0, 0, 0), (.iastore, 0, 0, 0), (.sipush (-1), 0, 0, 0), (.ireturn, 0, 0, 0)],
  [(.sipush 0, 0, 0, 0), (.istore 6, 0, 0, 0)],
  [(.iload 6, 0, 0, 0), (.sipush 20, 0, 0, 0), (.if_icmp .ge 0, 8, 0, 0), (.iload 6, 0, 0, 0), (.sipush 4, 0, 0, 0), (.if_icmp .ge 0, 3, 0, 0), (.iload 1, 0, 0, 0), (.goto 0, 7, 0, 0)],
  [(.iload 6, 0, 0, 0), (.sipush 8, 0, 0, 0), (.if_icmp .ge 0, 4, 0, 0), (.iload 2, 0, 0, 0), (.goto 0, 7, 0, 0)],
  [(.iload 6, 0, 0, 0), (.sipush 12, 0, 0, 0), (.if_icmp .ge 0, 5, 0, 0), (.iload 3, 0, 0, 0), (.goto 0, 7, 0, 0)],
  [(.iload 6, 0, 0, 0), (.sipush 16, 0, 0, 0), (.if_icmp .ge 0, 6, 0, 0), (.iload 4, 0, 0, 0), (.goto 0, 7, 0, 0)],
  [(.iload 5, 0, 0, 0)],
  [(.istore 7, 0, 0, 0), (.aload 0, 0, 0, 0), (.getfield 2, 12, 0, 0), (.aload 0, 0, 0, 0), (.getfield 0, 12, 1, 0), (.iload 7, 0, 0, 0), (.sipush 8, 0, 0, 0), (.sipush 3, 0, 0, 0), (.iload 6, 0, 0, 0), (.sipush 4, 0, 0, 0), (.irem, 0, 0, 0), (.isub, 0, 0, 0), (.imul, 0, 0, 0), (.ishr, 0, 0, 0), (.sipush 255, 0, 0, 0), (.iand, 0, 0, 0), (.iastore, 0, 0, 0), (.aload 0, 0, 0, 0), (.dup, 0, 0, 0), (.getfield 0, 12, 1, 0), (.sipush 1, 0, 0, 0), (.iadd, 0, 0, 0), (.putfield 0, 12, 1, 0), (.iinc 6 1, 0, 0, 0), (.goto 0, 2, 0, 0)],
  [(.aload 0, 0, 0, 0), (.getfield 0, 12, 1, 0), (.ireturn, 0, 0, 0)]]
def mk_154 : List (List mI) := [
  [(.iload 1, 0, 0, 0), (.ifCond .lt 0, 1, 0, 0), (.iload 1, 0, 0, 0), (.aload 0, 0, 0, 0), (.getfield 0, 12, 1, 0), (.if_icmp .le 0, 2, 0, 0)],
  [(.aload 0, 0, 0, 0), (.getfield 2, 12, 9, 0), (.sipush 0, 0, 0, 0), (.dup2, 0, 0, 0), (.iaload, 0, 0, 0), (.sipush 1, 0, 0, 0), (.iadd, 0, 0, 0), (.iastore, 0, 0, 0), (.sipush 0, 0, 0, 0), (.ireturn, 1, 0, 0)],
  [(.aload 0, 0, 0, 0), (.iload 1, 0, 0, 0), (.putfield 0, 12, 1, 0), (.sipush 1, 0, 0, 0), (.ireturn, 1, 0, 0)]]
def mk_155 : List (List mI) := [
  [(.aload 0, 0, 0, 0), (.getfield 0, 12, 5, 0), (.ifCond .eq 0, 1, 0, 0), (.return_, 0, 0, 0)],
  [(.aload 0, 0, 0, 0), (.iload 1, 0, 0, 0), (.putfield 0, 12, 5, 0), (.aload 0, 0, 0, 0), (.iload 2, 0, 0, 0), (.putfield 0, 12, 6, 0), (.return_, 0, 0, 0)]]
def mk_156 : List (List mI) := [
  [(.iload 0, 0, 0, 0), (.sipush 97, 0, 0, 0), (.if_icmp .lt 0, 1, 0, 0), (.iload 0, 0, 0, 0), (.sipush 122, 0, 0, 0), (.if_icmp .gt 0, 1, 0, 0), (.sipush 1, 0, 0, 0), (.goto 0, 2, 0, 0)],
  [(.sipush 0, 0, 0, 0)],
  [(.ireturn, 1, 0, 0)]]
def mk_157 : List (List mI) := [
  [(.iload 0, 0, 0, 0), (.sipush 48, 0, 0, 0), (.if_icmp .lt 0, 1, 0, 0), (.iload 0, 0, 0, 0), (.sipush 57, 0, 0, 0), (.if_icmp .gt 0, 1, 0, 0), (.sipush 1, 0, 0, 0), (.goto 0, 2, 0, 0)],
  [(.sipush 0, 0, 0, 0)],
  [(.ireturn, 1, 0, 0)]]
def mk_158 : List (List mI) := [
  [(.aload 0, 0, 0, 0), (.getfield 0, 12, 2, 0), (.aload 0, 0, 0, 0), (.getfield 0, 12, 3, 0), (.if_icmp .ge 0, 2, 0, 0), (.aload 0, 0, 0, 0), (.getfield 2, 12, 0, 0), (.aload 0, 0, 0, 0), (.getfield 0, 12, 2, 0), (.iaload, 0, 0, 0), (.sipush 10, 0, 0, 0), (.if_icmp .eq 0, 1, 0, 0), (.aload 0, 0, 0, 0), (.getfield 2, 12, 0, 0), (.aload 0, 0, 0, 0), (.getfield 0, 12, 2, 0), (.iaload, 0, 0, 0), (.sipush 32, 0, 0, 0), (.if_icmp .ne 0, 2, 0, 0)],
  [(.aload 0, 0, 0, 0), (.dup, 0, 0, 0), (.getfield 0, 12, 2, 0), (.sipush 1, 0, 0, 0), (.iadd, 0, 0, 0), (.putfield 0, 12, 2, 0), (.goto 0, 0, 0, 0)],
  [(.aload 0, 0, 0, 0), (.getfield 0, 12, 2, 0), (.aload 0, 0, 0, 0), (.getfield 0, 12, 3, 0), (.if_icmp .ge 0, 3, 0, 0), (.aload 0, 0, 0, 0), (.getfield 2, 12, 0, 0), (.aload 0, 0, 0, 0), (.getfield 0, 12, 2, 0), (.iaload, 0, 0, 0), (.goto 0, 4, 0, 0)],
  [(.sipush (-1), 0, 0, 0)],
  [(.ireturn, 0, 0, 0)]]
def mk_159 : List (List mI) := [
  [(.aload 0, 0, 0, 0), (.getfield 0, 12, 5, 0), (.ifCond .ne 0, 1, 0, 0), (.aload 0, 0, 0, 0), (.invokevirtual 158, 1, 12, 0), (.invokestatic 156, 1, 12, 0), (.ifCond .eq 0, 1, 0, 0), (.aload 0, 0, 0, 0), (.getfield 0, 12, 2, 0), (.aload 0, 0, 0, 0), (.getfield 0, 12, 4, 0), (.if_icmp .ne 0, 2, 0, 0)],
  [(.sipush 0, 0, 0, 0), (.ireturn, 1, 0, 0)],
  [(.aload 0, 0, 0, 0), (.getfield 0, 12, 2, 0), (.istore 2, 0, 0, 0)],
  [(.iload 2, 0, 0, 0), (.aload 0, 0, 0, 0), (.getfield 0, 12, 3, 0), (.if_icmp .ge 0, 4, 0, 0), (.aload 0, 0, 0, 0), (.getfield 2, 12, 0, 0), (.iload 2, 0, 0, 0), (.iaload, 0, 0, 0), (.invokestatic 156, 1, 12, 0), (.ifCond .eq 0, 4, 0, 0), (.iinc 2 1, 0, 0, 0), (.goto 0, 3, 0, 0)],
  [(.iload 2, 0, 0, 0), (.aload 0, 0, 0, 0), (.getfield 0, 12, 2, 0), (.isub, 0, 0, 0), (.aload 1, 0, 0, 0), (.arraylength, 0, 0, 0), (.if_icmp .eq 0, 5, 0, 0), (.sipush 0, 0, 0, 0), (.ireturn, 1, 0, 0)],
  [(.sipush 0, 0, 0, 0), (.istore 3, 0, 0, 0)],
  [(.iload 3, 0, 0, 0), (.aload 1, 0, 0, 0), (.arraylength, 0, 0, 0), (.if_icmp .ge 0, 8, 0, 0), (.aload 0, 0, 0, 0), (.getfield 2, 12, 0, 0), (.aload 0, 0, 0, 0), (.getfield 0, 12, 2, 0), (.iload 3, 0, 0, 0), (.iadd, 0, 0, 0), (.iaload, 0, 0, 0), (.aload 1, 0, 0, 0), (.iload 3, 0, 0, 0), (.caload, 0, 0, 0), (.if_icmp .eq 0, 7, 0, 0), (.sipush 0, 0, 0, 0), (.ireturn, 1, 0, 0)],
  [(.iinc 3 1, 0, 0, 0), (.goto 0, 6, 0, 0)],
  [(.sipush 1, 0, 0, 0), (.ireturn, 1, 0, 0)]]
def mk_160 : List (List mI) := [
  [(.aload 0, 0, 0, 0), (.aload 1, 0, 0, 0), (.invokevirtual 159, 2, 12, 0), (.ifCond .ne 0, 1, 0, 0), (.sipush 0, 0, 0, 0), (.ireturn, 1, 0, 0)],
  [(.aload 0, 0, 0, 0), (.dup, 0, 0, 0), (.getfield 0, 12, 2, 0), (.aload 1, 0, 0, 0), (.arraylength, 0, 0, 0), (.iadd, 0, 0, 0), (.putfield 0, 12, 2, 0), (.aload 0, 0, 0, 0), (.aload 0, 0, 0, 0), (.getfield 0, 12, 2, 0), (.putfield 0, 12, 4, 0), (.sipush 1, 0, 0, 0), (.ireturn, 1, 0, 0)]]
def mk_161 : List (List mI) := [
  [(.aload 0, 0, 0, 0), (.getfield 0, 12, 5, 0), (.ifCond .ne 0, 1, 0, 0), (.aload 0, 0, 0, 0), (.aload 1, 0, 0, 0), (.invokevirtual 160, 2, 12, 0), (.ifCond .ne 0, 1, 0, 0), (.aload 0, 0, 0, 0), (.sipush 1, 0, 0, 0), (.aload 0, 0, 0, 0), (.getfield 0, 12, 2, 0), (.invokevirtual 155, 3, 12, 0)],
  [(.return_, 0, 0, 0)]]
def mk_162 : List (List mI) := [
  [(.aload 0, 0, 0, 0), (.getfield 0, 12, 5, 0), (.ifCond .ne 0, 1, 0, 0), (.aload 0, 0, 0, 0), (.invokevirtual 158, 1, 12, 0), (.iload 1, 0, 0, 0), (.if_icmp .eq 0, 2, 0, 0)],
  [(.sipush 0, 0, 0, 0), (.ireturn, 1, 0, 0)],
  [(.aload 0, 0, 0, 0), (.dup, 0, 0, 0), (.getfield 0, 12, 2, 0), (.sipush 1, 0, 0, 0), (.iadd, 0, 0, 0), (.putfield 0, 12, 2, 0), (.sipush 1, 0, 0, 0), (.ireturn, 1, 0, 0)]]
def mk_163 : List (List mI) := [
  [(.aload 0, 0, 0, 0), (.getfield 0, 12, 5, 0), (.ifCond .ne 0, 1, 0, 0), (.aload 0, 0, 0, 0), (.iload 1, 0, 0, 0), (.invokevirtual 162, 2, 12, 0), (.ifCond .ne 0, 1, 0, 0), (.aload 0, 0, 0, 0), (.sipush 1, 0, 0, 0), (.aload 0, 0, 0, 0), (.getfield 0, 12, 2, 0), (.invokevirtual 155, 3, 12, 0)],
  [(.return_, 0, 0, 0)]]
def mk_164 : List (List mI) := [
  [(.aload 0, 0, 0, 0), (.getfield 0, 12, 5, 0), (.ifCond .eq 0, 1, 0, 0), (.sipush 0, 0, 0, 0), (.ireturn, 0, 0, 0)],
  [(.aload 0, 0, 0, 0), (.invokevirtual 158, 1, 12, 0), (.invokestatic 157, 1, 12, 0), (.ifCond .eq 0, 2, 0, 0), (.aload 0, 0, 0, 0), (.getfield 0, 12, 2, 0), (.aload 0, 0, 0, 0), (.getfield 0, 12, 4, 0), (.if_icmp .ne 0, 3, 0, 0)],
  [(.aload 0, 0, 0, 0), (.sipush 1, 0, 0, 0), (.aload 0, 0, 0, 0), (.getfield 0, 12, 2, 0), (.invokevirtual 155, 3, 12, 0), (.sipush 0, 0, 0, 0), (.ireturn, 0, 0, 0)],
  [(.aload 0, 0, 0, 0), (.getfield 0, 12, 2, 0), (.istore 3, 0, 0, 0), (.sipush 0, 0, 0, 0), (.istore 4, 0, 0, 0)],
  [(.aload 0, 0, 0, 0), (.getfield 0, 12, 2, 0), (.aload 0, 0, 0, 0), (.getfield 0, 12, 3, 0), (.if_icmp .ge 0, 6, 0, 0), (.aload 0, 0, 0, 0), (.getfield 2, 12, 0, 0), (.aload 0, 0, 0, 0), (.getfield 0, 12, 2, 0), (.iaload, 0, 0, 0), (.invokestatic 157, 1, 12, 0), (.ifCond .eq 0, 6, 0, 0), (.aload 0, 0, 0, 0), (.getfield 0, 12, 2, 0), (.iload 3, 0, 0, 0), (.isub, 0, 0, 0), (.sipush 4, 0, 0, 0), (.if_icmp .ne 0, 5, 0, 0), (.aload 0, 0, 0, 0), (.sipush 1, 0, 0, 0), (.aload 0, 0, 0, 0), (.getfield 0, 12, 2, 0), (.invokevirtual 155, 3, 12, 0), (.sipush 0, 0, 0, 0), (.ireturn, 0, 0, 0)],
  [(.sipush 10, 0, 0, 0), (.iload 4, 0, 0, 0), (.imul, 0, 0, 0), (.aload 0, 0, 0, 0), (.getfield 2, 12, 0, 0), (.aload 0, 0, 0, 0), (.getfield 0, 12, 2, 0), (.iaload, 0, 0, 0), (.iadd, 0, 0, 0), (.sipush 48, 0, 0, 0), (.isub, 0, 0, 0), (.istore 4, 0, 0, 0), (.aload 0, 0, 0, 0), (.dup, 0, 0, 0), (.getfield 0, 12, 2, 0), (.sipush 1, 0, 0, 0), (.iadd, 0, 0, 0), (.putfield 0, 12, 2, 0), (.goto 0, 4, 0, 0)],
  [(.aload 0, 0, 0, 0), (.aload 0, 0, 0, 0), (.getfield 0, 12, 2, 0), (.putfield 0, 12, 4, 0), (.iload 4, 0, 0, 0), (.i2l, 0, 0, 0), (.iload 1, 0, 0, 0), (.i2l, 0, 0, 0), (.iload 2, 0, 0, 0), (.i2l, 0, 0, 0), (.invokestatic 152, 3, 12, 0), (.ifCond .ne 0, 7, 0, 0), (.aload 0, 0, 0, 0), (.sipush 2, 0, 0, 0), (.iload 3, 0, 0, 0), (.invokevirtual 155, 3, 12, 0)],
  [(.iload 4, 0, 0, 0), (.ireturn, 0, 0, 0)]]
def mk_165 : List (List mI) := [
  [(.aload 0, 0, 0, 0), (.aload 0, 0, 0, 0), (.getfield 2, 12, 10, 0), (.invokevirtual 159, 2, 12, 0), (.ifCond .ne 0, 1, 0, 0), (.aload 0, 0, 0, 0), (.aload 0, 0, 0, 0), (.getfield 2, 12, 11, 0), (.invokevirtual 159, 2, 12, 0), (.ifCond .ne 0, 1, 0, 0), (.aload 0, 0, 0, 0), (.aload 0, 0, 0, 0), (.getfield 2, 12, 12, 0), (.invokevirtual 159, 2, 12, 0), (.ifCond .ne 0, 1, 0, 0), (.aload 0, 0, 0, 0), (.aload 0, 0, 0, 0), (.getfield 2, 12, 13, 0), (.invokevirtual 159, 2, 12, 0), (.ifCond .ne 0, 1, 0, 0), (.aload 0, 0, 0, 0), (.aload 0, 0, 0, 0), (.getfield 2, 12, 14, 0), (.invokevirtual 159, 2, 12, 0), (.ifCond .ne 0, 1, 0, 0), (.aload 0, 0, 0, 0), (.aload 0, 0, 0, 0), (.getfield 2, 12, 15, 0), (.invokevirtual 159, 2, 12, 0), (.ifCond .eq 0, 2, 0, 0)],
  [(.sipush 1, 0, 0, 0), (.goto 0, 3, 0, 0)],
  [(.sipush 0, 0, 0, 0)],
  [(.istore 1, 0, 0, 0), (.iload 1, 0, 0, 0), (.ifCond .ne 0, 4, 0, 0), (.aload 0, 0, 0, 0), (.aload 0, 0, 0, 0), (.getfield 2, 12, 16, 0), (.invokevirtual 159, 2, 12, 0), (.ifCond .ne 0, 4, 0, 0), (.aload 0, 0, 0, 0), (.aload 0, 0, 0, 0), (.getfield 2, 12, 17, 0), (.invokevirtual 159, 2, 12, 0), (.ifCond .ne 0, 4, 0, 0), (.aload 0, 0, 0, 0), (.aload 0, 0, 0, 0), (.getfield 2, 12, 18, 0), (.invokevirtual 159, 2, 12, 0), (.ifCond .ne 0, 4, 0, 0), (.aload 0, 0, 0, 0), (.aload 0, 0, 0, 0), (.getfield 2, 12, 19, 0), (.invokevirtual 159, 2, 12, 0), (.ifCond .ne 0, 4, 0, 0), (.aload 0, 0, 0, 0), (.aload 0, 0, 0, 0), (.getfield 2, 12, 20, 0), (.invokevirtual 159, 2, 12, 0), (.ifCond .ne 0, 4, 0, 0), (.aload 0, 0, 0, 0), (.aload 0, 0, 0, 0), (.getfield 2, 12, 21, 0), (.invokevirtual 159, 2, 12, 0), (.ifCond .eq 0, 5, 0, 0)],
  [(.sipush 1, 0, 0, 0), (.goto 0, 6, 0, 0)],
  [(.sipush 0, 0, 0, 0)],
  [(.istore 1, 0, 0, 0), (.iload 1, 0, 0, 0), (.ifCond .ne 0, 7, 0, 0), (.aload 0, 0, 0, 0), (.aload 0, 0, 0, 0), (.getfield 2, 12, 22, 0), (.invokevirtual 159, 2, 12, 0), (.ifCond .ne 0, 7, 0, 0), (.aload 0, 0, 0, 0), (.aload 0, 0, 0, 0), (.getfield 2, 12, 23, 0), (.invokevirtual 159, 2, 12, 0), (.ifCond .ne 0, 7, 0, 0), (.aload 0, 0, 0, 0), (.aload 0, 0, 0, 0), (.getfield 2, 12, 24, 0), (.invokevirtual 159, 2, 12, 0), (.ifCond .ne 0, 7, 0, 0), (.aload 0, 0, 0, 0), (.aload 0, 0, 0, 0), (.getfield 2, 12, 25, 0), (.invokevirtual 159, 2, 12, 0), (.ifCond .ne 0, 7, 0, 0), (.aload 0, 0, 0, 0), (.aload 0, 0, 0, 0), (.getfield 2, 12, 26, 0), (.invokevirtual 159, 2, 12, 0), (.ifCond .ne 0, 7, 0, 0), (.aload 0, 0, 0, 0), (.aload 0, 0, 0, 0), (.getfield 2, 12, 27, 0), (.invokevirtual 159, 2, 12, 0), (.ifCond .eq 0, 8, 0, 0)],
  [(.sipush 1, 0, 0, 0), (.goto 0, 9, 0, 0)],
  [(.sipush 0, 0, 0, 0)],
  [(.istore 1, 0, 0, 0), (.iload 1, 0, 0, 0), (.ifCond .ne 0, 10, 0, 0), (.aload 0, 0, 0, 0), (.aload 0, 0, 0, 0), (.getfield 2, 12, 28, 0), (.invokevirtual 159, 2, 12, 0), (.ifCond .ne 0, 10, 0, 0), (.aload 0, 0, 0, 0), (.aload 0, 0, 0, 0), (.getfield 2, 12, 29, 0), (.invokevirtual 159, 2, 12, 0), (.ifCond .ne 0, 10, 0, 0), (.aload 0, 0, 0, 0), (.aload 0, 0, 0, 0), (.getfield 2, 12, 30, 0), (.invokevirtual 159, 2, 12, 0), (.ifCond .ne 0, 10, 0, 0), (.aload 0, 0, 0, 0), (.aload 0, 0, 0, 0), (.getfield 2, 12, 31, 0), (.invokevirtual 159, 2, 12, 0), (.ifCond .ne 0, 10, 0, 0), (.aload 0, 0, 0, 0), (.aload 0, 0, 0, 0), (.getfield 2, 12, 32, 0), (.invokevirtual 159, 2, 12, 0), (.ifCond .ne 0, 10, 0, 0), (.aload 0, 0, 0, 0), (.aload 0, 0, 0, 0), (.getfield 2, 12, 33, 0), (.invokevirtual 159, 2, 12, 0), (.ifCond .eq 0, 11, 0, 0)],
  [(.sipush 1, 0, 0, 0), (.goto 0, 12, 0, 0)],
  [(.sipush 0, 0, 0, 0)],
  [(.istore 1, 0, 0, 0), (.iload 1, 0, 0, 0), (.ireturn, 1, 0, 0)]]
def mk_166 : List (List mI) := [
  [(.aload 0, 0, 0, 0), (.getfield 0, 12, 5, 0), (.ifCond .eq 0, 1, 0, 0), (.jsr 0, 0, 0, 0), (.lreturn, 0, 0, 0)],
  [(.aload 0, 0, 0, 0), (.invokevirtual 158, 1, 12, 0), (.invokestatic 156, 1, 12, 0), (.ifCond .eq 0, 2, 0, 0), (.aload 0, 0, 0, 0), (.getfield 0, 12, 2, 0), (.aload 0, 0, 0, 0), (.getfield 0, 12, 4, 0), (.if_icmp .eq 0, 2, 0, 0), (.aload 0, 0, 0, 0), (.invokevirtual 165, 1, 12, 0), (.ifCond .eq 0, 3, 0, 0)],
  [(.aload 0, 0, 0, 0), (.sipush 1, 0, 0, 0), (.aload 0, 0, 0, 0), (.getfield 0, 12, 2, 0), (.invokevirtual 155, 3, 12, 0), (.jsr 0, 0, 0, 0), (.lreturn, 0, 0, 0)],
  [(.aload 0, 0, 0, 0), (.aload 0, 0, 0, 0), (.getfield 0, 12, 2, 0), (.putfield 0, 12, 34, 0), (.jsr 0, 0, 0, 0), (.lstore 1, 0, 0, 0)],
  [(.aload 0, 0, 0, 0), (.getfield 0, 12, 2, 0), (.aload 0, 0, 0, 0), (.getfield 0, 12, 3, 0), (.if_icmp .ge 0, 6, 0, 0), (.aload 0, 0, 0, 0), (.getfield 2, 12, 0, 0), (.aload 0, 0, 0, 0), (.getfield 0, 12, 2, 0), (.iaload, 0, 0, 0), (.invokestatic 156, 1, 12, 0), (.ifCond .eq 0, 6, 0, 0), (.aload 0, 0, 0, 0), (.getfield 0, 12, 2, 0), (.aload 0, 0, 0, 0), (.getfield 0, 12, 34, 0), (.isub, 0, 0, 0), (.sipush 6, 0, 0, 0), (.if_icmp .ne 0, 5, 0, 0), (.aload 0, 0, 0, 0), (.sipush 1, 0, 0, 0), (.aload 0, 0, 0, 0), (.getfield 0, 12, 2, 0), (.invokevirtual 155, 3, 12, 0), (.jsr 0, 0, 0, 0), (.lreturn, 0, 0, 0)],
  [(.jsr 27, 0, 0, 0), (.lload 1, 0, 0, 0), (.lmul, 0, 0, 0), (.aload 0, 0, 0, 0), (.getfield 2, 12, 0, 0), (.aload 0, 0, 0, 0), (.getfield 0, 12, 2, 0), (.iaload, 0, 0, 0), (.i2l, 0, 0, 0), (.ladd, 0, 0, 0), (.jsr 97, 0, 0, 0), (.lsub, 0, 0, 0), (.jsr 1, 0, 0, 0), (.ladd, 0, 0, 0), (.lstore 1, 0, 0, 0), (.aload 0, 0, 0, 0), (.dup, 0, 0, 0), (.getfield 0, 12, 2, 0), (.sipush 1, 0, 0, 0), (.iadd, 0, 0, 0), (.putfield 0, 12, 2, 0), (.goto 0, 4, 0, 0)],
  [(.aload 0, 0, 0, 0), (.aload 0, 0, 0, 0), (.getfield 0, 12, 2, 0), (.putfield 0, 12, 4, 0), (.lload 1, 0, 0, 0), (.lreturn, 0, 0, 0)]]
def mk_167 : List (List mI) := [
  [(.aload 0, 0, 0, 0), (.getfield 0, 12, 46, 0), (.sipush 2, 0, 0, 0), (.if_icmp .eq 0, 3, 0, 0), (.iload 1, 0, 0, 0), (.aload 0, 0, 0, 0), (.getfield 0, 12, 46, 0), (.ifCond .ne 0, 1, 0, 0), (.sipush 5, 0, 0, 0), (.goto 0, 2, 0, 0)],
  [(.sipush 6, 0, 0, 0)],
  [(.if_icmp .ge 0, 4, 0, 0)],
  [(.sipush 1, 0, 0, 0), (.goto 0, 5, 0, 0)],
  [(.sipush 0, 0, 0, 0)],
  [(.ireturn, 1, 0, 0)]]
def mk_168 : List (List mI) := [
  [(.sipush 0, 0, 0, 0), (.istore 3, 0, 0, 0)],
  [(.iload 3, 0, 0, 0), (.aload 0, 0, 0, 0), (.getfield 2, 12, 35, 0), (.sipush 0, 0, 0, 0), (.iaload, 0, 0, 0), (.if_icmp .ge 0, 3, 0, 0), (.aload 0, 0, 0, 0), (.getfield 2, 12, 36, 0), (.iload 3, 0, 0, 0), (.laload, 0, 0, 0), (.lload 1, 0, 0, 0), (.lcmp, 0, 0, 0), (.ifCond .ne 0, 2, 0, 0), (.iload 3, 0, 0, 0), (.ireturn, 0, 0, 0)],
  [(.iinc 3 1, 0, 0, 0), (.goto 0, 1, 0, 0)],
  [(.sipush (-1), 0, 0, 0), (.ireturn, 0, 0, 0)]]
def mk_169 : List (List mI) := [
  [(.aload 0, 0, 0, 0), (.invokevirtual 166, 1, 12, 0), (.lstore 1, 0, 0, 0), (.aload 0, 0, 0, 0), (.lload 1, 0, 0, 0), (.invokevirtual 168, 2, 12, 0), (.istore 3, 0, 0, 0), (.aload 0, 0, 0, 0), (.getfield 0, 12, 5, 0), (.ifCond .ne 0, 1, 0, 0), (.iload 3, 0, 0, 0), (.sipush (-1), 0, 0, 0), (.if_icmp .ne 0, 1, 0, 0), (.aload 0, 0, 0, 0), (.sipush 3, 0, 0, 0), (.aload 0, 0, 0, 0), (.getfield 0, 12, 34, 0), (.invokevirtual 155, 3, 12, 0)],
  [(.aload 0, 0, 0, 0), (.getfield 0, 12, 5, 0), (.ifCond .ne 0, 2, 0, 0), (.iload 3, 0, 0, 0), (.goto 0, 3, 0, 0)],
  [(.sipush 0, 0, 0, 0)],
  [(.ireturn, 0, 0, 0)]]
def mk_170 : List (List mI) := [
  [(.aload 0, 0, 0, 0), (.getfield 0, 12, 5, 0), (.ifCond .ne 0, 1, 0, 0), (.aload 0, 0, 0, 0), (.getfield 2, 12, 35, 0), (.sipush 0, 0, 0, 0), (.iaload, 0, 0, 0), (.sipush 7, 0, 0, 0), (.if_icmp .ne 0, 1, 0, 0), (.aload 0, 0, 0, 0), (.sipush 5, 0, 0, 0), (.iload 1, 0, 0, 0), (.invokevirtual 155, 3, 12, 0)],
  [(.aload 0, 0, 0, 0), (.getfield 0, 12, 5, 0), (.ifCond .eq 0, 2, 0, 0), (.return_, 0, 0, 0)],
  [(.aload 0, 0, 0, 0), (.invokevirtual 166, 1, 12, 0), (.lstore 2, 0, 0, 0), (.aload 0, 0, 0, 0), (.getfield 0, 12, 5, 0), (.ifCond .ne 0, 3, 0, 0), (.aload 0, 0, 0, 0), (.lload 2, 0, 0, 0), (.invokevirtual 168, 2, 12, 0), (.sipush (-1), 0, 0, 0), (.if_icmp .eq 0, 3, 0, 0), (.aload 0, 0, 0, 0), (.sipush 3, 0, 0, 0), (.aload 0, 0, 0, 0), (.getfield 0, 12, 34, 0), (.invokevirtual 155, 3, 12, 0)],
  [(.aload 0, 0, 0, 0), (.aload 0, 0, 0, 0), (.getfield 2, 12, 11, 0), (.invokevirtual 161, 2, 12, 0), (.aload 0, 0, 0, 0), (.sipush 0, 0, 0, 0), (.sipush 20, 0, 0, 0), (.invokevirtual 164, 3, 12, 0), (.istore 4, 0, 0, 0), (.aload 0, 0, 0, 0), (.getfield 0, 12, 5, 0), (.ifCond .eq 0, 4, 0, 0), (.return_, 0, 0, 0)],
  [(.aload 0, 0, 0, 0), (.getfield 2, 12, 36, 0), (.aload 0, 0, 0, 0), (.getfield 2, 12, 35, 0), (.sipush 0, 0, 0, 0), (.iaload, 0, 0, 0), (.lload 2, 0, 0, 0), (.lastore, 0, 0, 0), (.aload 0, 0, 0, 0), (.getfield 2, 12, 37, 0), (.aload 0, 0, 0, 0), (.getfield 2, 12, 35, 0), (.sipush 0, 0, 0, 0), (.iaload, 0, 0, 0), (.iload 4, 0, 0, 0), (.iastore, 0, 0, 0), (.aload 0, 0, 0, 0), (.getfield 2, 12, 35, 0), (.sipush 0, 0, 0, 0), (.dup2, 0, 0, 0), (.iaload, 0, 0, 0), (.sipush 1, 0, 0, 0), (.iadd, 0, 0, 0), (.iastore, 0, 0, 0), (.return_, 0, 0, 0)]]
def mk_171 : List (List mI) := [
  [(.aload 0, 0, 0, 0), (.getfield 0, 12, 5, 0), (.ifCond .ne 0, 1, 0, 0), (.aload 0, 0, 0, 0), (.getfield 2, 12, 35, 0), (.sipush 1, 0, 0, 0), (.iaload, 0, 0, 0), (.sipush 12, 0, 0, 0), (.if_icmp .ne 0, 1, 0, 0), (.aload 0, 0, 0, 0), (.sipush 5, 0, 0, 0), (.iload 1, 0, 0, 0), (.invokevirtual 155, 3, 12, 0)],
  [(.aload 0, 0, 0, 0), (.getfield 0, 12, 5, 0), (.ifCond .eq 0, 2, 0, 0), (.return_, 0, 0, 0)],
  [(.aload 0, 0, 0, 0), (.invokevirtual 169, 1, 12, 0), (.istore 2, 0, 0, 0), (.aload 0, 0, 0, 0), (.invokevirtual 169, 1, 12, 0), (.istore 3, 0, 0, 0), (.aload 0, 0, 0, 0), (.getfield 0, 12, 5, 0), (.ifCond .ne 0, 4, 0, 0), (.iload 2, 0, 0, 0), (.iload 3, 0, 0, 0), (.if_icmp .eq 0, 3, 0, 0), (.aload 0, 0, 0, 0), (.getfield 2, 12, 38, 0), (.iload 2, 0, 0, 0), (.iaload, 0, 0, 0), (.iload 3, 0, 0, 0), (.ishr, 0, 0, 0), (.sipush 1, 0, 0, 0), (.iand, 0, 0, 0), (.sipush 1, 0, 0, 0), (.if_icmp .ne 0, 4, 0, 0)],
  [(.aload 0, 0, 0, 0), (.sipush 3, 0, 0, 0), (.aload 0, 0, 0, 0), (.getfield 0, 12, 34, 0), (.invokevirtual 155, 3, 12, 0)],
  [(.aload 0, 0, 0, 0), (.getfield 0, 12, 5, 0), (.ifCond .eq 0, 5, 0, 0), (.return_, 0, 0, 0)],
  [(.aload 0, 0, 0, 0), (.getfield 2, 12, 38, 0), (.iload 2, 0, 0, 0), (.dup2, 0, 0, 0), (.iaload, 0, 0, 0), (.sipush 1, 0, 0, 0), (.iload 3, 0, 0, 0), (.ishl, 0, 0, 0), (.ior, 0, 0, 0), (.iastore, 0, 0, 0), (.aload 0, 0, 0, 0), (.getfield 2, 12, 38, 0), (.iload 3, 0, 0, 0), (.dup2, 0, 0, 0), (.iaload, 0, 0, 0), (.sipush 1, 0, 0, 0), (.iload 2, 0, 0, 0), (.ishl, 0, 0, 0), (.ior, 0, 0, 0), (.iastore, 0, 0, 0), (.aload 0, 0, 0, 0), (.getfield 2, 12, 35, 0), (.sipush 1, 0, 0, 0), (.dup2, 0, 0, 0), (.iaload, 0, 0, 0), (.sipush 1, 0, 0, 0), (.iadd, 0, 0, 0), (.iastore, 0, 0, 0), (.return_, 0, 0, 0)]]
def mk_172 : List (List mI) := [
  [(.aload 0, 0, 0, 0), (.invokevirtual 169, 1, 12, 0), (.istore 2, 0, 0, 0), (.aload 0, 0, 0, 0), (.getfield 0, 12, 5, 0), (.ifCond .ne 0, 1, 0, 0), (.aload 0, 0, 0, 0), (.getfield 2, 12, 39, 0), (.iload 1, 0, 0, 0), (.iaload, 0, 0, 0), (.iload 2, 0, 0, 0), (.ishr, 0, 0, 0), (.sipush 1, 0, 0, 0), (.iand, 0, 0, 0), (.sipush 1, 0, 0, 0), (.if_icmp .ne 0, 1, 0, 0), (.aload 0, 0, 0, 0), (.sipush 3, 0, 0, 0), (.aload 0, 0, 0, 0), (.getfield 0, 12, 34, 0), (.invokevirtual 155, 3, 12, 0)],
  [(.aload 0, 0, 0, 0), (.getfield 0, 12, 5, 0), (.ifCond .ne 0, 2, 0, 0), (.aload 0, 0, 0, 0), (.getfield 2, 12, 39, 0), (.iload 1, 0, 0, 0), (.dup2, 0, 0, 0), (.iaload, 0, 0, 0), (.sipush 1, 0, 0, 0), (.iload 2, 0, 0, 0), (.ishl, 0, 0, 0), (.ior, 0, 0, 0), (.iastore, 0, 0, 0)],
  [(.return_, 0, 0, 0)]]
def mk_173 : List (List mI) := [
  [(.aload 0, 0, 0, 0), (.getfield 0, 12, 5, 0), (.ifCond .ne 0, 1, 0, 0), (.aload 0, 0, 0, 0), (.getfield 2, 12, 41, 0), (.iload 1, 0, 0, 0), (.iaload, 0, 0, 0), (.sipush (-1), 0, 0, 0), (.if_icmp .eq 0, 1, 0, 0), (.aload 0, 0, 0, 0), (.sipush 5, 0, 0, 0), (.iload 2, 0, 0, 0), (.invokevirtual 155, 3, 12, 0)],
  [(.aload 0, 0, 0, 0), (.getfield 0, 12, 5, 0), (.ifCond .eq 0, 2, 0, 0), (.return_, 0, 0, 0)],
  [(.aload 0, 0, 0, 0), (.iload 1, 0, 0, 0), (.sipush 2, 0, 0, 0), (.if_icmp .ne 0, 3, 0, 0), (.sipush 1, 0, 0, 0), (.goto 0, 4, 0, 0)],
  [(.sipush 0, 0, 0, 0)],
  [(.putfield 0, 12, 46, 0), (.aload 0, 0, 0, 0), (.sipush 0, 0, 0, 0), (.putfield 0, 12, 89, 0), (.aload 0, 0, 0, 0), (.sipush 0, 0, 0, 0), (.putfield 0, 12, 91, 0), (.aload 0, 0, 0, 0), (.sipush 0, 0, 0, 0), (.putfield 0, 12, 92, 0), (.aload 0, 0, 0, 0), (.sipush 0, 0, 0, 0), (.putfield 0, 12, 93, 0), (.aload 0, 0, 0, 0), (.invokevirtual 250, 1, 12, 0), (.aload 0, 0, 0, 0), (.getfield 0, 12, 5, 0), (.ifCond .eq 0, 5, 0, 0), (.return_, 0, 0, 0)],
  [(.aload 0, 0, 0, 0), (.getfield 2, 12, 41, 0), (.iload 1, 0, 0, 0), (.aload 0, 0, 0, 0), (.getfield 0, 12, 44, 0), (.iastore, 0, 0, 0), (.sipush 0, 0, 0, 0), (.istore 3, 0, 0, 0)],
  [(.iload 3, 0, 0, 0), (.aload 0, 0, 0, 0), (.getfield 0, 12, 89, 0), (.if_icmp .ge 0, 7, 0, 0), (.aload 0, 0, 0, 0), (.getfield 2, 12, 43, 0), (.aload 0, 0, 0, 0), (.getfield 0, 12, 44, 0), (.aload 0, 0, 0, 0), (.getfield 2, 12, 88, 0), (.iload 3, 0, 0, 0), (.iaload, 0, 0, 0), (.iastore, 0, 0, 0), (.aload 0, 0, 0, 0), (.dup, 0, 0, 0), (.getfield 0, 12, 44, 0), (.sipush 1, 0, 0, 0), (.iadd, 0, 0, 0), (.putfield 0, 12, 44, 0), (.iinc 3 1, 0, 0, 0), (.goto 0, 6, 0, 0)],
  [(.aload 0, 0, 0, 0), (.getfield 2, 12, 42, 0), (.iload 1, 0, 0, 0), (.aload 0, 0, 0, 0), (.getfield 0, 12, 44, 0), (.iastore, 0, 0, 0), (.return_, 0, 0, 0)]]
def mk_174 : List (List mI) := [
  [(.aload 0, 0, 0, 0), (.getfield 0, 12, 2, 0), (.istore 1, 0, 0, 0), (.aload 0, 0, 0, 0), (.getfield 0, 12, 45, 0), (.sipush 80, 0, 0, 0), (.if_icmp .ne 0, 1, 0, 0), (.aload 0, 0, 0, 0), (.sipush 5, 0, 0, 0), (.iload 1, 0, 0, 0), (.invokevirtual 155, 3, 12, 0), (.return_, 0, 0, 0)],
  [(.aload 0, 0, 0, 0), (.aload 0, 0, 0, 0), (.getfield 2, 12, 10, 0), (.invokevirtual 160, 2, 12, 0), (.ifCond .eq 0, 2, 0, 0), (.aload 0, 0, 0, 0), (.iload 1, 0, 0, 0), (.invokevirtual 170, 2, 12, 0), (.goto 0, 10, 0, 0)],
  [(.aload 0, 0, 0, 0), (.aload 0, 0, 0, 0), (.getfield 2, 12, 12, 0), (.invokevirtual 160, 2, 12, 0), (.ifCond .eq 0, 3, 0, 0), (.aload 0, 0, 0, 0), (.iload 1, 0, 0, 0), (.invokevirtual 171, 2, 12, 0), (.goto 0, 10, 0, 0)],
  [(.aload 0, 0, 0, 0), (.aload 0, 0, 0, 0), (.getfield 2, 12, 13, 0), (.invokevirtual 160, 2, 12, 0), (.ifCond .eq 0, 4, 0, 0), (.aload 0, 0, 0, 0), (.sipush 0, 0, 0, 0), (.invokevirtual 172, 2, 12, 0), (.goto 0, 10, 0, 0)],
  [(.aload 0, 0, 0, 0), (.aload 0, 0, 0, 0), (.getfield 2, 12, 14, 0), (.invokevirtual 160, 2, 12, 0), (.ifCond .eq 0, 5, 0, 0), (.aload 0, 0, 0, 0), (.sipush 1, 0, 0, 0), (.invokevirtual 172, 2, 12, 0), (.goto 0, 10, 0, 0)],
  [(.aload 0, 0, 0, 0), (.aload 0, 0, 0, 0), (.getfield 2, 12, 15, 0), (.invokevirtual 160, 2, 12, 0), (.ifCond .eq 0, 6, 0, 0), (.aload 0, 0, 0, 0), (.sipush 0, 0, 0, 0), (.iload 1, 0, 0, 0), (.invokevirtual 173, 3, 12, 0), (.goto 0, 10, 0, 0)],
  [(.aload 0, 0, 0, 0), (.aload 0, 0, 0, 0), (.getfield 2, 12, 16, 0), (.invokevirtual 160, 2, 12, 0), (.ifCond .eq 0, 7, 0, 0), (.aload 0, 0, 0, 0), (.sipush 1, 0, 0, 0), (.iload 1, 0, 0, 0), (.invokevirtual 173, 3, 12, 0), (.goto 0, 10, 0, 0)],
  [(.aload 0, 0, 0, 0), (.aload 0, 0, 0, 0), (.getfield 2, 12, 17, 0), (.invokevirtual 160, 2, 12, 0), (.ifCond .eq 0, 8, 0, 0), (.aload 0, 0, 0, 0), (.sipush 2, 0, 0, 0), (.iload 1, 0, 0, 0), (.invokevirtual 173, 3, 12, 0), (.goto 0, 10, 0, 0)],
  [(.aload 0, 0, 0, 0), (.aload 0, 0, 0, 0), (.getfield 2, 12, 18, 0), (.invokevirtual 160, 2, 12, 0), (.ifCond .eq 0, 9, 0, 0), (.aload 0, 0, 0, 0), (.getfield 2, 12, 40, 0), (.sipush 0, 0, 0, 0), (.aload 0, 0, 0, 0), (.sipush 1, 0, 0, 0), (.sipush 20, 0, 0, 0), (.invokevirtual 164, 3, 12, 0), (.iastore, 0, 0, 0), (.goto 0, 10, 0, 0)],
  [(.aload 0, 0, 0, 0), (.aload 0, 0, 0, 0), (.getfield 2, 12, 19, 0), (.invokevirtual 161, 2, 12, 0), (.aload 0, 0, 0, 0), (.getfield 2, 12, 40, 0), (.sipush 1, 0, 0, 0), (.aload 0, 0, 0, 0), (.sipush 0, 0, 0, 0), (.sipush 100, 0, 0, 0), (.invokevirtual 164, 3, 12, 0), (.iastore, 0, 0, 0)],
  [(.aload 0, 0, 0, 0), (.sipush 59, 0, 0, 0), (.invokevirtual 163, 2, 12, 0), (.aload 0, 0, 0, 0), (.dup, 0, 0, 0), (.getfield 0, 12, 45, 0), (.sipush 1, 0, 0, 0), (.iadd, 0, 0, 0), (.putfield 0, 12, 45, 0), (.return_, 0, 0, 0)]]
def mk_175 : List (List mI) := [
  [(.aload 0, 0, 0, 0), (.aload 0, 0, 0, 0), (.getfield 0, 12, 1, 0), (.putfield 0, 12, 3, 0), (.aload 0, 0, 0, 0), (.sipush 0, 0, 0, 0), (.putfield 0, 12, 1, 0), (.aload 0, 0, 0, 0), (.sipush 0, 0, 0, 0), (.putfield 0, 12, 2, 0), (.aload 0, 0, 0, 0), (.sipush (-1), 0, 0, 0), (.putfield 0, 12, 4, 0), (.aload 0, 0, 0, 0), (.sipush 0, 0, 0, 0), (.putfield 0, 12, 5, 0), (.aload 0, 0, 0, 0), (.sipush (-1), 0, 0, 0), (.putfield 0, 12, 6, 0), (.aload 0, 0, 0, 0), (.sipush 0, 0, 0, 0), (.putfield 0, 12, 45, 0), (.aload 0, 0, 0, 0), (.sipush 0, 0, 0, 0), (.putfield 0, 12, 44, 0), (.sipush 0, 0, 0, 0), (.istore 1, 0, 0, 0)],
  [(.iload 1, 0, 0, 0), (.sipush 2, 0, 0, 0), (.if_icmp .ge 0, 2, 0, 0), (.aload 0, 0, 0, 0), (.getfield 2, 12, 35, 0), (.iload 1, 0, 0, 0), (.sipush 0, 0, 0, 0), (.iastore, 0, 0, 0), (.aload 0, 0, 0, 0), (.getfield 2, 12, 39, 0), (.iload 1, 0, 0, 0), (.sipush 0, 0, 0, 0), (.iastore, 0, 0, 0), (.iinc 1 1, 0, 0, 0), (.goto 0, 1, 0, 0)],
  [(.sipush 0, 0, 0, 0), (.istore 1, 0, 0, 0)],
  [(.iload 1, 0, 0, 0), (.sipush 7, 0, 0, 0), (.if_icmp .ge 0, 4, 0, 0), (.aload 0, 0, 0, 0), (.getfield 2, 12, 38, 0), (.iload 1, 0, 0, 0), (.sipush 0, 0, 0, 0), (.iastore, 0, 0, 0), (.iinc 1 1, 0, 0, 0), (.goto 0, 3, 0, 0)],
  [(.sipush 0, 0, 0, 0), (.istore 1, 0, 0, 0)],
  [(.iload 1, 0, 0, 0), (.sipush 3, 0, 0, 0), (.if_icmp .ge 0, 6, 0, 0), (.aload 0, 0, 0, 0), (.getfield 2, 12, 41, 0), (.iload 1, 0, 0, 0), (.sipush (-1), 0, 0, 0), (.iastore, 0, 0, 0), (.iinc 1 1, 0, 0, 0), (.goto 0, 5, 0, 0)],
  [(.aload 0, 0, 0, 0), (.getfield 2, 12, 40, 0), (.sipush 0, 0, 0, 0), (.sipush 15, 0, 0, 0), (.iastore, 0, 0, 0), (.aload 0, 0, 0, 0), (.getfield 2, 12, 40, 0), (.sipush 1, 0, 0, 0), (.sipush 0, 0, 0, 0), (.iastore, 0, 0, 0)],
  [(.aload 0, 0, 0, 0), (.getfield 0, 12, 5, 0), (.ifCond .ne 0, 8, 0, 0), (.aload 0, 0, 0, 0), (.invokevirtual 158, 1, 12, 0), (.sipush (-1), 0, 0, 0), (.if_icmp .eq 0, 8, 0, 0), (.aload 0, 0, 0, 0), (.invokevirtual 174, 1, 12, 0), (.goto 0, 7, 0, 0)],
  [(.aload 0, 0, 0, 0), (.aload 0, 0, 0, 0), (.getfield 0, 12, 5, 0), (.putfield 0, 12, 7, 0), (.aload 0, 0, 0, 0), (.aload 0, 0, 0, 0), (.getfield 0, 12, 6, 0), (.putfield 0, 12, 8, 0), (.aload 0, 0, 0, 0), (.getfield 0, 12, 5, 0), (.ifCond .eq 0, 9, 0, 0), (.aload 0, 0, 0, 0), (.getfield 2, 12, 9, 0), (.sipush 1, 0, 0, 0), (.dup2, 0, 0, 0), (.iaload, 0, 0, 0), (.sipush 1, 0, 0, 0), (.iadd, 0, 0, 0), (.iastore, 0, 0, 0), (.sipush (-1), 0, 0, 0), (.ireturn, 0, 0, 0)],
  [(.aload 0, 0, 0, 0), (.invokevirtual 176, 1, 12, 0), (.aload 0, 0, 0, 0), (.getfield 0, 12, 45, 0), (.ireturn, 0, 0, 0)]]
def mk_176 : List (List mI) := [
  [(.sipush 0, 0, 0, 0), (.istore 1, 0, 0, 0)],
  [(.iload 1, 0, 0, 0), (.sipush 2, 0, 0, 0), (.if_icmp .ge 0, 2, 0, 0), (.aload 0, 0, 0, 0), (.getfield 2, 12, 35, 0), (.sipush 2, 0, 0, 0), (.iload 1, 0, 0, 0), (.iadd, 0, 0, 0), (.aload 0, 0, 0, 0), (.getfield 2, 12, 35, 0), (.iload 1, 0, 0, 0), (.iaload, 0, 0, 0), (.iastore, 0, 0, 0), (.aload 0, 0, 0, 0), (.getfield 2, 12, 40, 0), (.sipush 2, 0, 0, 0), (.iload 1, 0, 0, 0), (.iadd, 0, 0, 0), (.aload 0, 0, 0, 0), (.getfield 2, 12, 40, 0), (.iload 1, 0, 0, 0), (.iaload, 0, 0, 0), (.iastore, 0, 0, 0), (.iinc 1 1, 0, 0, 0), (.goto 0, 1, 0, 0)],
  [(.sipush 0, 0, 0, 0), (.istore 1, 0, 0, 0)],
  [(.iload 1, 0, 0, 0), (.sipush 7, 0, 0, 0), (.if_icmp .ge 0, 4, 0, 0), (.aload 0, 0, 0, 0), (.getfield 2, 12, 36, 0), (.sipush 7, 0, 0, 0), (.iload 1, 0, 0, 0), (.iadd, 0, 0, 0), (.aload 0, 0, 0, 0), (.getfield 2, 12, 36, 0), (.iload 1, 0, 0, 0), (.laload, 0, 0, 0), (.lastore, 0, 0, 0), (.aload 0, 0, 0, 0), (.getfield 2, 12, 38, 0), (.sipush 7, 0, 0, 0), (.iload 1, 0, 0, 0), (.iadd, 0, 0, 0), (.aload 0, 0, 0, 0), (.getfield 2, 12, 38, 0), (.iload 1, 0, 0, 0), (.iaload, 0, 0, 0), (.iastore, 0, 0, 0), (.iinc 1 1, 0, 0, 0), (.goto 0, 3, 0, 0)],
  [(.sipush 0, 0, 0, 0), (.istore 1, 0, 0, 0)],
  [(.iload 1, 0, 0, 0), (.sipush 3, 0, 0, 0), (.if_icmp .ge 0, 6, 0, 0), (.aload 0, 0, 0, 0), (.getfield 2, 12, 41, 0), (.sipush 3, 0, 0, 0), (.iload 1, 0, 0, 0), (.iadd, 0, 0, 0), (.aload 0, 0, 0, 0), (.getfield 2, 12, 41, 0), (.iload 1, 0, 0, 0), (.iaload, 0, 0, 0), (.iastore, 0, 0, 0), (.aload 0, 0, 0, 0), (.getfield 2, 12, 42, 0), (.sipush 3, 0, 0, 0), (.iload 1, 0, 0, 0), (.iadd, 0, 0, 0), (.aload 0, 0, 0, 0), (.getfield 2, 12, 42, 0), (.iload 1, 0, 0, 0), (.iaload, 0, 0, 0), (.iastore, 0, 0, 0), (.iinc 1 1, 0, 0, 0), (.goto 0, 5, 0, 0)],
  [(.sipush 0, 0, 0, 0), (.istore 1, 0, 0, 0)],
  [(.iload 1, 0, 0, 0), (.aload 0, 0, 0, 0), (.getfield 0, 12, 44, 0), (.if_icmp .ge 0, 8, 0, 0), (.aload 0, 0, 0, 0), (.getfield 2, 12, 43, 0), (.sipush 1600, 0, 0, 0), (.iload 1, 0, 0, 0), (.iadd, 0, 0, 0), (.aload 0, 0, 0, 0), (.getfield 2, 12, 43, 0), (.iload 1, 0, 0, 0), (.iaload, 0, 0, 0), (.iastore, 0, 0, 0), (.iinc 1 1, 0, 0, 0), (.goto 0, 7, 0, 0)],
  [(.sipush 0, 0, 0, 0), (.istore 1, 0, 0, 0)],
  [(.iload 1, 0, 0, 0), (.sipush 150, 0, 0, 0), (.if_icmp .ge 0, 10, 0, 0), (.aload 0, 0, 0, 0), (.getfield 2, 12, 47, 0), (.iload 1, 0, 0, 0), (.sipush 0, 0, 0, 0), (.iastore, 0, 0, 0), (.iinc 1 1, 0, 0, 0), (.goto 0, 9, 0, 0)],
  [(.sipush 0, 0, 0, 0), (.istore 1, 0, 0, 0)],
  [(.iload 1, 0, 0, 0), (.aload 0, 0, 0, 0), (.getfield 2, 12, 35, 0), (.sipush 0, 0, 0, 0), (.iaload, 0, 0, 0), (.if_icmp .ge 0, 12, 0, 0), (.aload 0, 0, 0, 0), (.getfield 2, 12, 47, 0), (.sipush 1, 0, 0, 0), (.sipush 4, 0, 0, 0), (.iload 1, 0, 0, 0), (.imul, 0, 0, 0), (.iadd, 0, 0, 0), (.aload 0, 0, 0, 0), (.getfield 2, 12, 37, 0), (.iload 1, 0, 0, 0), (.iaload, 0, 0, 0), (.iastore, 0, 0, 0), (.aload 0, 0, 0, 0), (.getfield 2, 12, 47, 0), (.sipush 2, 0, 0, 0), (.sipush 4, 0, 0, 0), (.iload 1, 0, 0, 0), (.imul, 0, 0, 0), (.iadd, 0, 0, 0), (.aload 0, 0, 0, 0), (.getfield 2, 12, 39, 0), (.sipush 0, 0, 0, 0), (.iaload, 0, 0, 0), (.iload 1, 0, 0, 0), (.ishr, 0, 0, 0), (.sipush 1, 0, 0, 0), (.iand, 0, 0, 0), (.iastore, 0, 0, 0), (.aload 0, 0, 0, 0), (.getfield 2, 12, 47, 0), (.sipush 3, 0, 0, 0), (.sipush 4, 0, 0, 0), (.iload 1, 0, 0, 0), (.imul, 0, 0, 0), (.iadd, 0, 0, 0), (.aload 0, 0, 0, 0), (.getfield 2, 12, 39, 0), (.sipush 1, 0, 0, 0), (.iaload, 0, 0, 0), (.iload 1, 0, 0, 0), (.ishr, 0, 0, 0), (.sipush 1, 0, 0, 0), (.iand, 0, 0, 0), (.iastore, 0, 0, 0), (.aload 0, 0, 0, 0), (.getfield 2, 12, 47, 0), (.sipush 4, 0, 0, 0), (.sipush 4, 0, 0, 0), (.iload 1, 0, 0, 0), (.imul, 0, 0, 0), (.iadd, 0, 0, 0), (.sipush (-1), 0, 0, 0), (.iastore, 0, 0, 0), (.iinc 1 1, 0, 0, 0), (.goto 0, 11, 0, 0)],
  [(.aload 0, 0, 0, 0), (.sipush 0, 0, 0, 0), (.putfield 0, 12, 65, 0), (.aload 0, 0, 0, 0), (.sipush 0, 0, 0, 0), (.putfield 0, 12, 58, 0), (.return_, 0, 0, 0)]]
def mk_177 : List (List mI) := [
  [(.iload 1, 0, 0, 0), (.ifCond .ne 0, 1, 0, 0), (.aload 0, 0, 0, 0), (.getfield 0, 12, 7, 0), (.goto 0, 3, 0, 0)],
  [(.iload 1, 0, 0, 0), (.sipush 1, 0, 0, 0), (.if_icmp .ne 0, 2, 0, 0), (.aload 0, 0, 0, 0), (.getfield 0, 12, 8, 0), (.goto 0, 3, 0, 0)],
  [(.sipush (-1), 0, 0, 0)],
  [(.ireturn, 0, 0, 0)]]
def mk_178 : List (List mI) := [
  [(.aload 0, 0, 0, 0), (.getfield 2, 12, 35, 0), (.sipush 2, 0, 0, 0), (.iaload, 0, 0, 0), (.ireturn, 0, 0, 0)]]
def mk_179 : List (List mI) := [
  [(.lload 1, 0, 0, 0), (.jsr 0, 0, 0, 0), (.aload 0, 0, 0, 0), (.invokevirtual 178, 1, 12, 0), (.sipush 1, 0, 0, 0), (.isub, 0, 0, 0), (.i2l, 0, 0, 0), (.invokestatic 152, 3, 12, 0), (.ireturn, 1, 0, 0)]]
def mk_180 : List (List mI) := [
  [(.aload 0, 0, 0, 0), (.getfield 2, 12, 47, 0), (.sipush 1, 0, 0, 0), (.sipush 4, 0, 0, 0), (.iload 1, 0, 0, 0), (.imul, 0, 0, 0), (.iadd, 0, 0, 0), (.iaload, 0, 0, 0), (.ireturn, 0, 0, 0)]]
def mk_181 : List (List mI) := [
  [(.aload 0, 0, 0, 0), (.getfield 2, 12, 47, 0), (.sipush 2, 0, 0, 0), (.sipush 4, 0, 0, 0), (.iload 1, 0, 0, 0), (.imul, 0, 0, 0), (.iadd, 0, 0, 0), (.iaload, 0, 0, 0), (.sipush 1, 0, 0, 0), (.if_icmp .ne 0, 1, 0, 0), (.sipush 1, 0, 0, 0), (.goto 0, 2, 0, 0)],
  [(.sipush 0, 0, 0, 0)],
  [(.ireturn, 1, 0, 0)]]
def mk_182 : List (List mI) := [
  [(.aload 0, 0, 0, 0), (.getfield 2, 12, 47, 0), (.sipush 3, 0, 0, 0), (.sipush 4, 0, 0, 0), (.iload 1, 0, 0, 0), (.imul, 0, 0, 0), (.iadd, 0, 0, 0), (.iaload, 0, 0, 0), (.sipush 1, 0, 0, 0), (.if_icmp .ne 0, 1, 0, 0), (.sipush 1, 0, 0, 0), (.goto 0, 2, 0, 0)],
  [(.sipush 0, 0, 0, 0)],
  [(.ireturn, 1, 0, 0)]]
def mk_183 : List (List mI) := [
  [(.aload 0, 0, 0, 0), (.getfield 2, 12, 47, 0), (.sipush 4, 0, 0, 0), (.sipush 4, 0, 0, 0), (.iload 1, 0, 0, 0), (.imul, 0, 0, 0), (.iadd, 0, 0, 0), (.iaload, 0, 0, 0), (.ireturn, 0, 0, 0)]]
def mk_184 : List (List mI) := [
  [(.aload 0, 0, 0, 0), (.getfield 2, 12, 38, 0), (.sipush 7, 0, 0, 0), (.iload 1, 0, 0, 0), (.iadd, 0, 0, 0), (.iaload, 0, 0, 0), (.iload 2, 0, 0, 0), (.ishr, 0, 0, 0), (.sipush 1, 0, 0, 0), (.iand, 0, 0, 0), (.sipush 1, 0, 0, 0), (.if_icmp .ne 0, 1, 0, 0), (.sipush 1, 0, 0, 0), (.goto 0, 2, 0, 0)],
  [(.sipush 0, 0, 0, 0)],
  [(.ireturn, 1, 0, 0)]]
def mk_185 : List (List mI) := [
  [(.sipush (-1), 0, 0, 0), (.istore 3, 0, 0, 0), (.sipush 0, 0, 0, 0), (.istore 4, 0, 0, 0)],
  [(.iload 4, 0, 0, 0), (.aload 0, 0, 0, 0), (.invokevirtual 178, 1, 12, 0), (.if_icmp .ge 0, 6, 0, 0), (.aload 0, 0, 0, 0), (.iload 1, 0, 0, 0), (.iload 4, 0, 0, 0), (.invokevirtual 184, 3, 12, 0), (.ifCond .eq 0, 5, 0, 0), (.aload 0, 0, 0, 0), (.iload 4, 0, 0, 0), (.invokevirtual 181, 2, 12, 0), (.ifCond .eq 0, 2, 0, 0), (.goto 0, 5, 0, 0)],
  [(.iload 3, 0, 0, 0), (.sipush (-1), 0, 0, 0), (.if_icmp .eq 0, 4, 0, 0), (.iload 2, 0, 0, 0), (.ifCond .eq 0, 3, 0, 0), (.aload 0, 0, 0, 0), (.iload 4, 0, 0, 0), (.invokevirtual 180, 2, 12, 0), (.iload 3, 0, 0, 0), (.if_icmp .le 0, 5, 0, 0), (.goto 0, 4, 0, 0)],
  [(.aload 0, 0, 0, 0), (.iload 4, 0, 0, 0), (.invokevirtual 180, 2, 12, 0), (.iload 3, 0, 0, 0), (.if_icmp .ge 0, 5, 0, 0)],
  [(.aload 0, 0, 0, 0), (.iload 4, 0, 0, 0), (.invokevirtual 180, 2, 12, 0), (.istore 3, 0, 0, 0)],
  [(.iinc 4 1, 0, 0, 0), (.goto 0, 1, 0, 0)],
  [(.iload 3, 0, 0, 0), (.sipush (-1), 0, 0, 0), (.if_icmp .ne 0, 7, 0, 0), (.aload 0, 0, 0, 0), (.iload 1, 0, 0, 0), (.invokevirtual 180, 2, 12, 0), (.goto 0, 8, 0, 0)],
  [(.iload 3, 0, 0, 0)],
  [(.ireturn, 0, 0, 0)]]
def mk_186 : List (List mI) := [
  [(.aload 0, 0, 0, 0), (.iload 1, 0, 0, 0), (.invokevirtual 180, 2, 12, 0), (.aload 0, 0, 0, 0), (.getfield 2, 12, 40, 0), (.sipush 2, 0, 0, 0), (.iaload, 0, 0, 0), (.if_icmp .lt 0, 1, 0, 0), (.sipush 1, 0, 0, 0), (.goto 0, 2, 0, 0)],
  [(.sipush 0, 0, 0, 0)],
  [(.ireturn, 1, 0, 0)]]
def mk_187 : List (List mI) := [
  [(.sipush 0, 0, 0, 0), (.istore 1, 0, 0, 0), (.sipush 0, 0, 0, 0), (.istore 2, 0, 0, 0)],
  [(.iload 2, 0, 0, 0), (.aload 0, 0, 0, 0), (.invokevirtual 178, 1, 12, 0), (.if_icmp .ge 0, 3, 0, 0), (.aload 0, 0, 0, 0), (.iload 2, 0, 0, 0), (.invokevirtual 186, 2, 12, 0), (.ifCond .eq 0, 2, 0, 0), (.iinc 1 1, 0, 0, 0)],
  [(.iinc 2 1, 0, 0, 0), (.goto 0, 1, 0, 0)],
  [(.iload 1, 0, 0, 0), (.ireturn, 0, 0, 0)]]
def mk_188 : List (List mI) := [
  [(.aload 0, 0, 0, 0), (.iload 1, 0, 0, 0), (.sipush 2, 0, 0, 0), (.if_icmp .ne 0, 1, 0, 0), (.sipush 1, 0, 0, 0), (.goto 0, 2, 0, 0)],
  [(.sipush 0, 0, 0, 0)],
  [(.putfield 0, 12, 46, 0), (.aload 0, 0, 0, 0), (.sipush 0, 0, 0, 0), (.putfield 0, 12, 95, 0), (.aload 0, 0, 0, 0), (.getfield 2, 12, 41, 0), (.sipush 3, 0, 0, 0), (.iload 1, 0, 0, 0), (.iadd, 0, 0, 0), (.iaload, 0, 0, 0), (.istore 3, 0, 0, 0)],
  [(.iload 3, 0, 0, 0), (.aload 0, 0, 0, 0), (.getfield 2, 12, 42, 0), (.sipush 3, 0, 0, 0), (.iload 1, 0, 0, 0), (.iadd, 0, 0, 0), (.iaload, 0, 0, 0), (.if_icmp .ge 0, 7, 0, 0), (.aload 0, 0, 0, 0), (.getfield 2, 12, 43, 0), (.sipush 1600, 0, 0, 0), (.iload 3, 0, 0, 0), (.iadd, 0, 0, 0), (.iaload, 0, 0, 0), (.istore 4, 0, 0, 0), (.iload 4, 0, 0, 0), (.sipush 1000, 0, 0, 0), (.if_icmp .lt 0, 4, 0, 0), (.aload 0, 0, 0, 0), (.iload 4, 0, 0, 0), (.sipush 1000, 0, 0, 0), (.isub, 0, 0, 0), (.i2l, 0, 0, 0), (.invokevirtual 258, 2, 12, 0), (.goto 0, 6, 0, 0)],
  [(.iload 4, 0, 0, 0), (.sipush 40, 0, 0, 0), (.if_icmp .lt 0, 5, 0, 0), (.aload 0, 0, 0, 0), (.aload 0, 0, 0, 0), (.iload 4, 0, 0, 0), (.sipush 40, 0, 0, 0), (.isub, 0, 0, 0), (.iload 2, 0, 0, 0), (.invokevirtual 260, 3, 12, 0), (.invokevirtual 258, 2, 12, 0), (.goto 0, 6, 0, 0)],
  [(.aload 0, 0, 0, 0), (.iload 4, 0, 0, 0), (.invokevirtual 259, 2, 12, 0)],
  [(.iinc 3 1, 0, 0, 0), (.goto 0, 3, 0, 0)],
  [(.aload 0, 0, 0, 0), (.getfield 2, 12, 94, 0), (.sipush 0, 0, 0, 0), (.laload, 0, 0, 0), (.lreturn, 0, 0, 0)]]
def mk_189 : List (List mI) := [
  [(.lload 0, 0, 0, 0), (.jsr 0, 0, 0, 0), (.lcmp, 0, 0, 0), (.ifCond .ge 0, 1, 0, 0), (.sipush 0, 0, 0, 0), (.goto 0, 3, 0, 0)],
  [(.lload 0, 0, 0, 0), (.jsr 20, 0, 0, 0), (.lcmp, 0, 0, 0), (.ifCond .le 0, 2, 0, 0), (.sipush 20, 0, 0, 0), (.goto 0, 3, 0, 0)],
  [(.lload 0, 0, 0, 0), (.l2i, 0, 0, 0)],
  [(.ireturn, 0, 0, 0)]]
def mk_190 : List (List mI) := [
  [(.aload 0, 0, 0, 0), (.iload 1, 0, 0, 0), (.invokevirtual 183, 2, 12, 0), (.sipush (-2), 0, 0, 0), (.if_icmp .ne 0, 1, 0, 0), (.sipush (-1), 0, 0, 0), (.ireturn, 0, 0, 0)],
  [(.aload 0, 0, 0, 0), (.iload 1, 0, 0, 0), (.invokevirtual 183, 2, 12, 0), (.sipush (-1), 0, 0, 0), (.if_icmp .eq 0, 2, 0, 0), (.aload 0, 0, 0, 0), (.iload 1, 0, 0, 0), (.invokevirtual 183, 2, 12, 0), (.ireturn, 0, 0, 0)],
  [(.aload 0, 0, 0, 0), (.getfield 2, 12, 41, 0), (.sipush 3, 0, 0, 0), (.iaload, 0, 0, 0), (.sipush (-1), 0, 0, 0), (.if_icmp .ne 0, 3, 0, 0), (.aload 0, 0, 0, 0), (.iload 1, 0, 0, 0), (.invokevirtual 180, 2, 12, 0), (.goto 0, 4, 0, 0)],
  [(.aload 0, 0, 0, 0), (.sipush 0, 0, 0, 0), (.iload 1, 0, 0, 0), (.invokevirtual 188, 3, 12, 0), (.invokestatic 189, 1, 12, 0)],
  [(.ireturn, 0, 0, 0)]]
def mk_191 : List (List mI) := [
  [(.aload 0, 0, 0, 0), (.getfield 2, 12, 41, 0), (.sipush 4, 0, 0, 0), (.iaload, 0, 0, 0), (.sipush (-1), 0, 0, 0), (.if_icmp .ne 0, 1, 0, 0), (.aload 0, 0, 0, 0), (.iload 1, 0, 0, 0), (.sipush 1, 0, 0, 0), (.invokevirtual 185, 3, 12, 0), (.goto 0, 2, 0, 0)],
  [(.aload 0, 0, 0, 0), (.sipush 1, 0, 0, 0), (.iload 1, 0, 0, 0), (.invokevirtual 188, 3, 12, 0), (.invokestatic 189, 1, 12, 0)],
  [(.ireturn, 0, 0, 0)]]
def mk_192 : List (List mI) := [
  [(.sipush 0, 0, 0, 0), (.istore 1, 0, 0, 0)],
  [(.iload 1, 0, 0, 0), (.aload 0, 0, 0, 0), (.invokevirtual 178, 1, 12, 0), (.if_icmp .ge 0, 5, 0, 0), (.aload 0, 0, 0, 0), (.getfield 2, 12, 50, 0), (.iload 1, 0, 0, 0), (.aload 0, 0, 0, 0), (.iload 1, 0, 0, 0), (.invokevirtual 190, 2, 12, 0), (.iastore, 0, 0, 0), (.aload 0, 0, 0, 0), (.getfield 2, 12, 51, 0), (.iload 1, 0, 0, 0), (.aload 0, 0, 0, 0), (.iload 1, 0, 0, 0), (.invokevirtual 191, 2, 12, 0), (.iastore, 0, 0, 0), (.aload 0, 0, 0, 0), (.getfield 2, 12, 49, 0), (.iload 1, 0, 0, 0), (.aload 0, 0, 0, 0), (.iload 1, 0, 0, 0), (.invokevirtual 182, 2, 12, 0), (.ifCond .ne 0, 2, 0, 0), (.aload 0, 0, 0, 0), (.getfield 2, 12, 50, 0), (.iload 1, 0, 0, 0), (.iaload, 0, 0, 0), (.sipush (-1), 0, 0, 0), (.if_icmp .ne 0, 3, 0, 0)],
  [(.aload 0, 0, 0, 0), (.iload 1, 0, 0, 0), (.invokevirtual 180, 2, 12, 0), (.goto 0, 4, 0, 0)],
  [(.aload 0, 0, 0, 0), (.getfield 2, 12, 50, 0), (.iload 1, 0, 0, 0), (.iaload, 0, 0, 0)],
  [(.iastore, 0, 0, 0), (.iinc 1 1, 0, 0, 0), (.goto 0, 1, 0, 0)],
  [(.return_, 0, 0, 0)]]
def mk_193 : List (List mI) := [
  [(.aload 0, 0, 0, 0), (.invokevirtual 192, 1, 12, 0), (.sipush 0, 0, 0, 0), (.istore 1, 0, 0, 0)],
  [(.iload 1, 0, 0, 0), (.aload 0, 0, 0, 0), (.invokevirtual 178, 1, 12, 0), (.if_icmp .ge 0, 4, 0, 0), (.aload 0, 0, 0, 0), (.getfield 2, 12, 52, 0), (.iload 1, 0, 0, 0), (.aload 0, 0, 0, 0), (.getfield 2, 12, 41, 0), (.sipush 5, 0, 0, 0), (.iaload, 0, 0, 0), (.sipush (-1), 0, 0, 0), (.if_icmp .ne 0, 2, 0, 0), (.aload 0, 0, 0, 0), (.getfield 2, 12, 49, 0), (.iload 1, 0, 0, 0), (.iaload, 0, 0, 0), (.goto 0, 3, 0, 0)],
  [(.aload 0, 0, 0, 0), (.sipush 2, 0, 0, 0), (.iload 1, 0, 0, 0), (.invokevirtual 188, 3, 12, 0), (.invokestatic 189, 1, 12, 0)],
  [(.iastore, 0, 0, 0), (.iinc 1 1, 0, 0, 0), (.goto 0, 1, 0, 0)],
  [(.return_, 0, 0, 0)]]
def mk_194 : List (List mI) := [
  [(.aload 0, 0, 0, 0), (.getfield 0, 12, 53, 0), (.ifCond .eq 0, 1, 0, 0), (.return_, 0, 0, 0)],
  [(.aload 0, 0, 0, 0), (.getfield 2, 12, 47, 0), (.sipush 29, 0, 0, 0), (.iaload, 0, 0, 0), (.sipush 40, 0, 0, 0), (.if_icmp .ne 0, 4, 0, 0), (.sipush 30, 0, 0, 0), (.istore 2, 0, 0, 0)],
  [(.iload 2, 0, 0, 0), (.sipush 147, 0, 0, 0), (.if_icmp .ge 0, 3, 0, 0), (.aload 0, 0, 0, 0), (.getfield 2, 12, 47, 0), (.iload 2, 0, 0, 0), (.aload 0, 0, 0, 0), (.getfield 2, 12, 47, 0), (.iload 2, 0, 0, 0), (.sipush 3, 0, 0, 0), (.iadd, 0, 0, 0), (.iaload, 0, 0, 0), (.iastore, 0, 0, 0), (.iinc 2 1, 0, 0, 0), (.goto 0, 2, 0, 0)],
  [(.goto 0, 5, 0, 0)],
  [(.aload 0, 0, 0, 0), (.getfield 2, 12, 47, 0), (.sipush 29, 0, 0, 0), (.dup2, 0, 0, 0), (.iaload, 0, 0, 0), (.sipush 1, 0, 0, 0), (.iadd, 0, 0, 0), (.iastore, 0, 0, 0)],
  [(.sipush 30, 0, 0, 0), (.sipush 3, 0, 0, 0), (.aload 0, 0, 0, 0), (.getfield 2, 12, 47, 0), (.sipush 29, 0, 0, 0), (.iaload, 0, 0, 0), (.imul, 0, 0, 0), (.iadd, 0, 0, 0), (.sipush 3, 0, 0, 0), (.isub, 0, 0, 0), (.istore 2, 0, 0, 0), (.aload 0, 0, 0, 0), (.getfield 2, 12, 47, 0), (.iload 2, 0, 0, 0), (.aload 0, 0, 0, 0), (.getfield 2, 12, 47, 0), (.sipush 0, 0, 0, 0), (.iaload, 0, 0, 0), (.iastore, 0, 0, 0), (.aload 0, 0, 0, 0), (.getfield 2, 12, 47, 0), (.iload 2, 0, 0, 0), (.sipush 1, 0, 0, 0), (.iadd, 0, 0, 0), (.iload 1, 0, 0, 0), (.iastore, 0, 0, 0), (.aload 0, 0, 0, 0), (.getfield 2, 12, 47, 0), (.iload 2, 0, 0, 0), (.sipush 2, 0, 0, 0), (.iadd, 0, 0, 0), (.aload 0, 0, 0, 0), (.iload 1, 0, 0, 0), (.invokevirtual 180, 2, 12, 0), (.iastore, 0, 0, 0), (.return_, 0, 0, 0)]]
def mk_195 : List (List mI) := [
  [(.aload 0, 0, 0, 0), (.invokevirtual 193, 1, 12, 0), (.sipush 0, 0, 0, 0), (.istore 1, 0, 0, 0)],
  [(.iload 1, 0, 0, 0), (.aload 0, 0, 0, 0), (.invokevirtual 178, 1, 12, 0), (.if_icmp .ge 0, 6, 0, 0), (.aload 0, 0, 0, 0), (.iload 1, 0, 0, 0), (.invokevirtual 186, 2, 12, 0), (.istore 2, 0, 0, 0), (.aload 0, 0, 0, 0), (.getfield 2, 12, 47, 0), (.sipush 1, 0, 0, 0), (.sipush 4, 0, 0, 0), (.iload 1, 0, 0, 0), (.imul, 0, 0, 0), (.iadd, 0, 0, 0), (.aload 0, 0, 0, 0), (.getfield 2, 12, 52, 0), (.iload 1, 0, 0, 0), (.iaload, 0, 0, 0), (.iastore, 0, 0, 0), (.aload 0, 0, 0, 0), (.getfield 2, 12, 47, 0), (.sipush 4, 0, 0, 0), (.sipush 4, 0, 0, 0), (.iload 1, 0, 0, 0), (.imul, 0, 0, 0), (.iadd, 0, 0, 0), (.sipush (-1), 0, 0, 0), (.iastore, 0, 0, 0), (.aload 0, 0, 0, 0), (.getfield 2, 12, 50, 0), (.iload 1, 0, 0, 0), (.iaload, 0, 0, 0), (.aload 0, 0, 0, 0), (.getfield 2, 12, 52, 0), (.iload 1, 0, 0, 0), (.iaload, 0, 0, 0), (.if_icmp .ne 0, 2, 0, 0), (.aload 0, 0, 0, 0), (.dup, 0, 0, 0), (.getfield 0, 12, 55, 0), (.sipush 1, 0, 0, 0), (.iadd, 0, 0, 0), (.putfield 0, 12, 55, 0)],
  [(.aload 0, 0, 0, 0), (.getfield 2, 12, 51, 0), (.iload 1, 0, 0, 0), (.iaload, 0, 0, 0), (.aload 0, 0, 0, 0), (.getfield 2, 12, 52, 0), (.iload 1, 0, 0, 0), (.iaload, 0, 0, 0), (.if_icmp .ne 0, 3, 0, 0), (.aload 0, 0, 0, 0), (.dup, 0, 0, 0), (.getfield 0, 12, 56, 0), (.sipush 1, 0, 0, 0), (.iadd, 0, 0, 0), (.putfield 0, 12, 56, 0)],
  [(.iload 2, 0, 0, 0), (.ifCond .ne 0, 5, 0, 0), (.aload 0, 0, 0, 0), (.iload 1, 0, 0, 0), (.invokevirtual 186, 2, 12, 0), (.ifCond .ne 0, 4, 0, 0), (.goto 0, 5, 0, 0)],
  [(.aload 0, 0, 0, 0), (.dup, 0, 0, 0), (.getfield 0, 12, 54, 0), (.sipush 1, 0, 0, 0), (.iadd, 0, 0, 0), (.putfield 0, 12, 54, 0), (.aload 0, 0, 0, 0), (.iload 1, 0, 0, 0), (.invokevirtual 194, 2, 12, 0)],
  [(.iinc 1 1, 0, 0, 0), (.goto 0, 1, 0, 0)],
  [(.aload 0, 0, 0, 0), (.getfield 2, 12, 47, 0), (.sipush 0, 0, 0, 0), (.dup2, 0, 0, 0), (.iaload, 0, 0, 0), (.sipush 1, 0, 0, 0), (.iadd, 0, 0, 0), (.iastore, 0, 0, 0), (.return_, 0, 0, 0)]]
def mk_196 : List (List mI) := [
  [(.sipush 0, 0, 0, 0), (.istore 2, 0, 0, 0)],
  [(.iload 2, 0, 0, 0), (.iload 1, 0, 0, 0), (.if_icmp .ge 0, 2, 0, 0), (.aload 0, 0, 0, 0), (.invokevirtual 195, 1, 12, 0), (.iinc 2 1, 0, 0, 0), (.goto 0, 1, 0, 0)],
  [(.return_, 0, 0, 0)]]
def mk_197 : List (List mI) := [
  [(.aload 0, 0, 0, 0), (.sipush 1, 0, 0, 0), (.putfield 3, 12, 53, 0), (.sipush 0, 0, 0, 0), (.istore 1, 0, 0, 0)],
  [(.iload 1, 0, 0, 0), (.sipush 29, 0, 0, 0), (.if_icmp .ge 0, 2, 0, 0), (.aload 0, 0, 0, 0), (.getfield 2, 12, 48, 0), (.iload 1, 0, 0, 0), (.aload 0, 0, 0, 0), (.getfield 2, 12, 47, 0), (.iload 1, 0, 0, 0), (.iaload, 0, 0, 0), (.iastore, 0, 0, 0), (.iinc 1 1, 0, 0, 0), (.goto 0, 1, 0, 0)],
  [(.aload 0, 0, 0, 0), (.sipush 0, 0, 0, 0), (.putfield 0, 12, 54, 0), (.return_, 0, 0, 0)]]
def mk_198 : List (List mI) := [
  [(.sipush 0, 0, 0, 0), (.istore 1, 0, 0, 0)],
  [(.iload 1, 0, 0, 0), (.sipush 29, 0, 0, 0), (.if_icmp .ge 0, 2, 0, 0), (.aload 0, 0, 0, 0), (.getfield 2, 12, 47, 0), (.iload 1, 0, 0, 0), (.aload 0, 0, 0, 0), (.getfield 2, 12, 48, 0), (.iload 1, 0, 0, 0), (.iaload, 0, 0, 0), (.iastore, 0, 0, 0), (.iinc 1 1, 0, 0, 0), (.goto 0, 1, 0, 0)],
  [(.aload 0, 0, 0, 0), (.sipush 0, 0, 0, 0), (.putfield 0, 12, 54, 0), (.return_, 0, 0, 0)]]
def mk_199 : List (List mI) := [
  [(.aload 0, 0, 0, 0), (.invokevirtual 198, 1, 12, 0), (.aload 0, 0, 0, 0), (.sipush 0, 0, 0, 0), (.putfield 3, 12, 53, 0), (.return_, 0, 0, 0)]]
def mk_200 : List (List mI) := [
  [(.iload 1, 0, 0, 0), (.i2l, 0, 0, 0), (.iload 2, 0, 0, 0), (.i2l, 0, 0, 0), (.iload 3, 0, 0, 0), (.i2l, 0, 0, 0), (.invokestatic 152, 3, 12, 0), (.ifCond .eq 0, 1, 0, 0), (.aload 0, 0, 0, 0), (.getfield 2, 12, 47, 0), (.sipush 0, 0, 0, 0), (.iaload, 0, 0, 0), (.iload 1, 0, 0, 0), (.iadd, 0, 0, 0), (.sipush 999, 0, 0, 0), (.if_icmp .gt 0, 1, 0, 0), (.sipush 1, 0, 0, 0), (.goto 0, 2, 0, 0)],
  [(.sipush 0, 0, 0, 0)],
  [(.ireturn, 1, 0, 0)]]
def mk_201 : List (List mI) := [
  [(.sipush 0, 0, 0, 0), (.istore 1, 0, 0, 0), (.iload 0, 0, 0, 0), (.istore 2, 0, 0, 0)],
  [(.iload 2, 0, 0, 0), (.ifCond .eq 0, 2, 0, 0), (.iinc 1 1, 0, 0, 0), (.iload 2, 0, 0, 0), (.iload 2, 0, 0, 0), (.sipush 1, 0, 0, 0), (.isub, 0, 0, 0), (.iand, 0, 0, 0), (.istore 2, 0, 0, 0), (.goto 0, 1, 0, 0)],
  [(.iload 1, 0, 0, 0), (.ireturn, 0, 0, 0)]]
def mk_202 : List (List mI) := [
  [(.sipush 0, 0, 0, 0), (.istore 2, 0, 0, 0), (.sipush 0, 0, 0, 0), (.istore 3, 0, 0, 0)],
  [(.iload 3, 0, 0, 0), (.aload 0, 0, 0, 0), (.invokevirtual 178, 1, 12, 0), (.if_icmp .ge 0, 2, 0, 0), (.iload 2, 0, 0, 0), (.aload 0, 0, 0, 0), (.getfield 2, 12, 47, 0), (.sipush 1, 0, 0, 0), (.sipush 4, 0, 0, 0), (.iload 3, 0, 0, 0), (.imul, 0, 0, 0), (.iadd, 0, 0, 0), (.iload 1, 0, 0, 0), (.iadd, 0, 0, 0), (.iaload, 0, 0, 0), (.iadd, 0, 0, 0), (.istore 2, 0, 0, 0), (.iinc 3 1, 0, 0, 0), (.goto 0, 1, 0, 0)],
  [(.iload 2, 0, 0, 0), (.ireturn, 0, 0, 0)]]
def mk_203 : List (List mI) := [
  [(.iload 1, 0, 0, 0), (.tableswitch 10 0 9 #[1, 1, 2, 3, 4, 5, 6, 7, 8, 9], 0, 0, 0)],
  [(.aload 0, 0, 0, 0), (.getfield 2, 12, 35, 0), (.sipush 2, 0, 0, 0), (.iload 1, 0, 0, 0), (.iadd, 0, 0, 0), (.iaload, 0, 0, 0), (.ireturn, 0, 0, 0)],
  [(.aload 0, 0, 0, 0), (.getfield 2, 12, 47, 0), (.sipush 0, 0, 0, 0), (.iaload, 0, 0, 0), (.ireturn, 0, 0, 0)],
  [(.aload 0, 0, 0, 0), (.invokevirtual 187, 1, 12, 0), (.ireturn, 0, 0, 0)],
  [(.aload 0, 0, 0, 0), (.sipush 1, 0, 0, 0), (.invokevirtual 202, 2, 12, 0), (.ireturn, 0, 0, 0)],
  [(.aload 0, 0, 0, 0), (.sipush 2, 0, 0, 0), (.invokevirtual 202, 2, 12, 0), (.ireturn, 0, 0, 0)],
  [(.aload 0, 0, 0, 0), (.sipush 0, 0, 0, 0), (.invokevirtual 202, 2, 12, 0), (.ireturn, 0, 0, 0)],
  [(.aload 0, 0, 0, 0), (.getfield 2, 12, 47, 0), (.sipush 29, 0, 0, 0), (.iaload, 0, 0, 0), (.ireturn, 0, 0, 0)],
  [(.aload 0, 0, 0, 0), (.getfield 0, 12, 58, 0), (.ireturn, 0, 0, 0)],
  [(.aload 0, 0, 0, 0), (.getfield 0, 12, 65, 0), (.ireturn, 0, 0, 0)],
  [(.sipush (-1), 0, 0, 0), (.ireturn, 0, 0, 0)]]
def mk_204 : List (List mI) := [
  [(.aload 0, 0, 0, 0), (.iload 1, 0, 0, 0), (.i2l, 0, 0, 0), (.invokevirtual 179, 2, 12, 0), (.ifCond .eq 0, 1, 0, 0), (.iload 2, 0, 0, 0), (.i2l, 0, 0, 0), (.jsr 0, 0, 0, 0), (.jsr 5, 0, 0, 0), (.invokestatic 152, 3, 12, 0), (.ifCond .ne 0, 2, 0, 0)],
  [(.sipush (-1), 0, 0, 0), (.ireturn, 0, 0, 0)],
  [(.aload 0, 0, 0, 0), (.getfield 2, 12, 36, 0), (.sipush 7, 0, 0, 0), (.iload 1, 0, 0, 0), (.iadd, 0, 0, 0), (.laload, 0, 0, 0), (.lstore 3, 0, 0, 0), (.sipush 0, 0, 0, 0), (.istore 5, 0, 0, 0), (.lload 3, 0, 0, 0), (.lstore 6, 0, 0, 0)],
  [(.lload 6, 0, 0, 0), (.jsr 0, 0, 0, 0), (.lcmp, 0, 0, 0), (.ifCond .le 0, 4, 0, 0), (.iinc 5 1, 0, 0, 0), (.lload 6, 0, 0, 0), (.jsr 27, 0, 0, 0), (.ldiv, 0, 0, 0), (.lstore 6, 0, 0, 0), (.goto 0, 3, 0, 0)],
  [(.iload 2, 0, 0, 0), (.iload 5, 0, 0, 0), (.if_icmp .lt 0, 5, 0, 0), (.sipush 0, 0, 0, 0), (.ireturn, 0, 0, 0)],
  [(.iload 5, 0, 0, 0), (.sipush 1, 0, 0, 0), (.isub, 0, 0, 0), (.istore 6, 0, 0, 0)],
  [(.iload 6, 0, 0, 0), (.iload 2, 0, 0, 0), (.if_icmp .le 0, 7, 0, 0), (.lload 3, 0, 0, 0), (.jsr 27, 0, 0, 0), (.ldiv, 0, 0, 0), (.lstore 3, 0, 0, 0), (.iinc 6 (-1), 0, 0, 0), (.goto 0, 6, 0, 0)],
  [(.lload 3, 0, 0, 0), (.jsr 27, 0, 0, 0), (.lrem, 0, 0, 0), (.l2i, 0, 0, 0), (.ireturn, 0, 0, 0)]]
def mk_205 : List (List mI) := [
  [(.aload 0, 0, 0, 0), (.iload 1, 0, 0, 0), (.i2l, 0, 0, 0), (.invokevirtual 179, 2, 12, 0), (.ifCond .ne 0, 1, 0, 0), (.sipush (-1), 0, 0, 0), (.ireturn, 0, 0, 0)],
  [(.iload 2, 0, 0, 0), (.tableswitch 7 0 4 #[2, 2, 2, 3, 4], 0, 0, 0)],
  [(.aload 0, 0, 0, 0), (.getfield 2, 12, 47, 0), (.sipush 1, 0, 0, 0), (.sipush 4, 0, 0, 0), (.iload 1, 0, 0, 0), (.imul, 0, 0, 0), (.iadd, 0, 0, 0), (.iload 2, 0, 0, 0), (.iadd, 0, 0, 0), (.iaload, 0, 0, 0), (.ireturn, 0, 0, 0)],
  [(.aload 0, 0, 0, 0), (.getfield 2, 12, 38, 0), (.sipush 7, 0, 0, 0), (.iload 1, 0, 0, 0), (.iadd, 0, 0, 0), (.iaload, 0, 0, 0), (.ireturn, 0, 0, 0)],
  [(.aload 0, 0, 0, 0), (.iload 1, 0, 0, 0), (.invokevirtual 186, 2, 12, 0), (.ifCond .eq 0, 5, 0, 0), (.sipush 1, 0, 0, 0), (.goto 0, 6, 0, 0)],
  [(.sipush 0, 0, 0, 0)],
  [(.ireturn, 0, 0, 0)],
  [(.sipush (-1), 0, 0, 0), (.ireturn, 0, 0, 0)]]
def mk_206 : List (List mI) := [
  [(.aload 0, 0, 0, 0), (.iload 1, 0, 0, 0), (.i2l, 0, 0, 0), (.invokevirtual 179, 2, 12, 0), (.ifCond .ne 0, 1, 0, 0), (.sipush (-1), 0, 0, 0), (.ireturn, 0, 0, 0)],
  [(.aload 0, 0, 0, 0), (.invokevirtual 193, 1, 12, 0), (.iload 2, 0, 0, 0), (.tableswitch 6 0 3 #[2, 3, 4, 5], 0, 0, 0)],
  [(.aload 0, 0, 0, 0), (.getfield 2, 12, 50, 0), (.iload 1, 0, 0, 0), (.iaload, 0, 0, 0), (.ireturn, 0, 0, 0)],
  [(.aload 0, 0, 0, 0), (.getfield 2, 12, 51, 0), (.iload 1, 0, 0, 0), (.iaload, 0, 0, 0), (.ireturn, 0, 0, 0)],
  [(.aload 0, 0, 0, 0), (.getfield 2, 12, 49, 0), (.iload 1, 0, 0, 0), (.iaload, 0, 0, 0), (.ireturn, 0, 0, 0)],
  [(.aload 0, 0, 0, 0), (.getfield 2, 12, 52, 0), (.iload 1, 0, 0, 0), (.iaload, 0, 0, 0), (.ireturn, 0, 0, 0)],
  [(.sipush (-1), 0, 0, 0), (.ireturn, 0, 0, 0)]]
def mk_207 : List (List mI) := [
  [(.iload 1, 0, 0, 0), (.i2l, 0, 0, 0), (.jsr 0, 0, 0, 0), (.aload 0, 0, 0, 0), (.getfield 2, 12, 47, 0), (.sipush 29, 0, 0, 0), (.iaload, 0, 0, 0), (.sipush 1, 0, 0, 0), (.isub, 0, 0, 0), (.i2l, 0, 0, 0), (.invokestatic 152, 3, 12, 0), (.ifCond .eq 0, 1, 0, 0), (.iload 2, 0, 0, 0), (.i2l, 0, 0, 0), (.jsr 0, 0, 0, 0), (.jsr 2, 0, 0, 0), (.invokestatic 152, 3, 12, 0), (.ifCond .eq 0, 1, 0, 0), (.aload 0, 0, 0, 0), (.getfield 2, 12, 47, 0), (.sipush 30, 0, 0, 0), (.sipush 3, 0, 0, 0), (.iload 1, 0, 0, 0), (.imul, 0, 0, 0), (.iadd, 0, 0, 0), (.iload 2, 0, 0, 0), (.iadd, 0, 0, 0), (.iaload, 0, 0, 0), (.goto 0, 2, 0, 0)],
  [(.sipush (-1), 0, 0, 0)],
  [(.ireturn, 0, 0, 0)]]
def mk_208 : List (List mI) := [
  [(.aload 0, 0, 0, 0), (.iload 1, 0, 0, 0), (.i2l, 0, 0, 0), (.invokevirtual 179, 2, 12, 0), (.ifCond .eq 0, 1, 0, 0), (.aload 0, 0, 0, 0), (.iload 2, 0, 0, 0), (.sipush 0, 0, 0, 0), (.sipush 60, 0, 0, 0), (.invokevirtual 200, 4, 12, 0), (.ifCond .eq 0, 1, 0, 0), (.iload 3, 0, 0, 0), (.i2l, 0, 0, 0), (.jsr 0, 0, 0, 0), (.jsr 1, 0, 0, 0), (.invokestatic 152, 3, 12, 0), (.ifCond .ne 0, 2, 0, 0)],
  [(.sipush (-1), 0, 0, 0), (.ireturn, 0, 0, 0)],
  [(.aload 0, 0, 0, 0), (.invokevirtual 197, 1, 12, 0), (.aload 0, 0, 0, 0), (.iload 2, 0, 0, 0), (.invokevirtual 196, 2, 12, 0), (.iload 3, 0, 0, 0), (.ifCond .ne 0, 3, 0, 0), (.aload 0, 0, 0, 0), (.iload 1, 0, 0, 0), (.invokevirtual 180, 2, 12, 0), (.goto 0, 4, 0, 0)],
  [(.aload 0, 0, 0, 0), (.invokevirtual 187, 1, 12, 0)],
  [(.istore 4, 0, 0, 0), (.aload 0, 0, 0, 0), (.invokevirtual 199, 1, 12, 0), (.iload 4, 0, 0, 0), (.ireturn, 0, 0, 0)]]
def mk_209 : List (List mI) := [
  [(.aload 0, 0, 0, 0), (.iload 1, 0, 0, 0), (.i2l, 0, 0, 0), (.invokevirtual 179, 2, 12, 0), (.ifCond .ne 0, 1, 0, 0), (.sipush (-1), 0, 0, 0), (.ireturn, 0, 0, 0)],
  [(.sipush 0, 0, 0, 0), (.istore 2, 0, 0, 0), (.aload 0, 0, 0, 0), (.invokevirtual 197, 1, 12, 0)],
  [(.aload 0, 0, 0, 0), (.iload 1, 0, 0, 0), (.invokevirtual 186, 2, 12, 0), (.ifCond .ne 0, 3, 0, 0), (.iload 2, 0, 0, 0), (.sipush 60, 0, 0, 0), (.if_icmp .ge 0, 3, 0, 0), (.aload 0, 0, 0, 0), (.getfield 2, 12, 47, 0), (.sipush 0, 0, 0, 0), (.iaload, 0, 0, 0), (.sipush 999, 0, 0, 0), (.if_icmp .ge 0, 3, 0, 0), (.aload 0, 0, 0, 0), (.invokevirtual 195, 1, 12, 0), (.iinc 2 1, 0, 0, 0), (.goto 0, 2, 0, 0)],
  [(.aload 0, 0, 0, 0), (.iload 1, 0, 0, 0), (.invokevirtual 186, 2, 12, 0), (.istore 3, 0, 0, 0), (.aload 0, 0, 0, 0), (.invokevirtual 199, 1, 12, 0), (.iload 3, 0, 0, 0), (.ifCond .eq 0, 4, 0, 0), (.iload 2, 0, 0, 0), (.goto 0, 5, 0, 0)],
  [(.sipush (-1), 0, 0, 0)],
  [(.ireturn, 0, 0, 0)]]
def mk_210 : List (List mI) := [
  [(.aload 0, 0, 0, 0), (.getfield 2, 12, 47, 0), (.sipush 4, 0, 0, 0), (.sipush 4, 0, 0, 0), (.iload 1, 0, 0, 0), (.imul, 0, 0, 0), (.iadd, 0, 0, 0), (.iaload, 0, 0, 0), (.istore 3, 0, 0, 0), (.aload 0, 0, 0, 0), (.getfield 2, 12, 47, 0), (.sipush 4, 0, 0, 0), (.sipush 4, 0, 0, 0), (.iload 1, 0, 0, 0), (.imul, 0, 0, 0), (.iadd, 0, 0, 0), (.iload 2, 0, 0, 0), (.iastore, 0, 0, 0), (.aload 0, 0, 0, 0), (.invokevirtual 193, 1, 12, 0), (.aload 0, 0, 0, 0), (.getfield 2, 12, 47, 0), (.sipush 4, 0, 0, 0), (.sipush 4, 0, 0, 0), (.iload 1, 0, 0, 0), (.imul, 0, 0, 0), (.iadd, 0, 0, 0), (.iload 3, 0, 0, 0), (.iastore, 0, 0, 0), (.aload 0, 0, 0, 0), (.getfield 2, 12, 52, 0), (.iload 1, 0, 0, 0), (.iaload, 0, 0, 0), (.iload 2, 0, 0, 0), (.if_icmp .ne 0, 1, 0, 0), (.sipush 1, 0, 0, 0), (.goto 0, 2, 0, 0)],
  [(.sipush 0, 0, 0, 0)],
  [(.ireturn, 1, 0, 0)]]
def mk_211 : List (List mI) := [
  [(.aload 0, 0, 0, 0), (.iload 1, 0, 0, 0), (.i2l, 0, 0, 0), (.invokevirtual 179, 2, 12, 0), (.ifCond .ne 0, 1, 0, 0), (.sipush (-1), 0, 0, 0), (.ireturn, 0, 0, 0)],
  [(.sipush 0, 0, 0, 0), (.istore 2, 0, 0, 0), (.sipush 0, 0, 0, 0), (.istore 3, 0, 0, 0)],
  [(.iload 3, 0, 0, 0), (.sipush 20, 0, 0, 0), (.if_icmp .gt 0, 4, 0, 0), (.aload 0, 0, 0, 0), (.iload 1, 0, 0, 0), (.iload 3, 0, 0, 0), (.invokevirtual 210, 3, 12, 0), (.ifCond .eq 0, 3, 0, 0), (.iload 2, 0, 0, 0), (.sipush 1, 0, 0, 0), (.iload 3, 0, 0, 0), (.ishl, 0, 0, 0), (.ior, 0, 0, 0), (.istore 2, 0, 0, 0)],
  [(.iinc 3 1, 0, 0, 0), (.goto 0, 2, 0, 0)],
  [(.iload 2, 0, 0, 0), (.ireturn, 0, 0, 0)]]
def mk_212 : List (List mI) := [
  [(.aload 0, 0, 0, 0), (.iload 1, 0, 0, 0), (.i2l, 0, 0, 0), (.invokevirtual 179, 2, 12, 0), (.ifCond .eq 0, 1, 0, 0), (.aload 0, 0, 0, 0), (.iload 2, 0, 0, 0), (.sipush 1, 0, 0, 0), (.sipush 20, 0, 0, 0), (.invokevirtual 200, 4, 12, 0), (.ifCond .eq 0, 1, 0, 0), (.iload 3, 0, 0, 0), (.i2l, 0, 0, 0), (.jsr 0, 0, 0, 0), (.jsr 1, 0, 0, 0), (.invokestatic 152, 3, 12, 0), (.ifCond .ne 0, 2, 0, 0)],
  [(.sipush (-1), 0, 0, 0), (.ireturn, 0, 0, 0)],
  [(.sipush (-1), 0, 0, 0), (.istore 4, 0, 0, 0), (.sipush 0, 0, 0, 0), (.istore 5, 0, 0, 0), (.sipush 0, 0, 0, 0), (.istore 6, 0, 0, 0), (.aload 0, 0, 0, 0), (.invokevirtual 197, 1, 12, 0), (.sipush 0, 0, 0, 0), (.istore 7, 0, 0, 0)],
  [(.iload 7, 0, 0, 0), (.sipush 20, 0, 0, 0), (.if_icmp .gt 0, 6, 0, 0), (.aload 0, 0, 0, 0), (.iload 1, 0, 0, 0), (.iload 7, 0, 0, 0), (.invokevirtual 210, 3, 12, 0), (.istore 8, 0, 0, 0), (.aload 0, 0, 0, 0), (.getfield 2, 12, 47, 0), (.sipush 4, 0, 0, 0), (.sipush 4, 0, 0, 0), (.iload 1, 0, 0, 0), (.imul, 0, 0, 0), (.iadd, 0, 0, 0), (.iload 7, 0, 0, 0), (.iastore, 0, 0, 0), (.aload 0, 0, 0, 0), (.iload 2, 0, 0, 0), (.invokevirtual 196, 2, 12, 0), (.aload 0, 0, 0, 0), (.getfield 0, 12, 54, 0), (.istore 9, 0, 0, 0), (.aload 0, 0, 0, 0), (.invokevirtual 198, 1, 12, 0), (.iload 4, 0, 0, 0), (.sipush (-1), 0, 0, 0), (.if_icmp .eq 0, 4, 0, 0), (.iload 9, 0, 0, 0), (.iload 5, 0, 0, 0), (.if_icmp .gt 0, 5, 0, 0), (.iload 9, 0, 0, 0), (.iload 5, 0, 0, 0), (.if_icmp .ne 0, 4, 0, 0), (.iload 6, 0, 0, 0), (.ifCond .ne 0, 5, 0, 0), (.iload 8, 0, 0, 0), (.ifCond .ne 0, 4, 0, 0), (.goto 0, 5, 0, 0)],
  [(.iload 7, 0, 0, 0), (.istore 4, 0, 0, 0), (.iload 9, 0, 0, 0), (.istore 5, 0, 0, 0), (.iload 8, 0, 0, 0), (.istore 6, 0, 0, 0)],
  [(.iinc 7 1, 0, 0, 0), (.goto 0, 3, 0, 0)],
  [(.aload 0, 0, 0, 0), (.invokevirtual 199, 1, 12, 0), (.iload 3, 0, 0, 0), (.ifCond .ne 0, 7, 0, 0), (.iload 4, 0, 0, 0), (.goto 0, 8, 0, 0)],
  [(.iload 5, 0, 0, 0)],
  [(.ireturn, 0, 0, 0)]]
def mk_213 : List (List mI) := [
  [(.sipush 1, 0, 0, 0), (.istore 3, 0, 0, 0), (.sipush 0, 0, 0, 0), (.istore 4, 0, 0, 0)],
  [(.iload 4, 0, 0, 0), (.iload 2, 0, 0, 0), (.if_icmp .ge 0, 4, 0, 0), (.iload 3, 0, 0, 0), (.ifCond .eq 0, 4, 0, 0), (.aload 0, 0, 0, 0), (.invokevirtual 195, 1, 12, 0), (.aload 0, 0, 0, 0), (.iload 1, 0, 0, 0), (.invokevirtual 186, 2, 12, 0), (.ifCond .ne 0, 2, 0, 0), (.sipush 1, 0, 0, 0), (.goto 0, 3, 0, 0)],
  [(.sipush 0, 0, 0, 0)],
  [(.istore 3, 0, 0, 0), (.iinc 4 1, 0, 0, 0), (.goto 0, 1, 0, 0)],
  [(.aload 0, 0, 0, 0), (.invokevirtual 198, 1, 12, 0), (.iload 3, 0, 0, 0), (.ireturn, 1, 0, 0)]]
def mk_214 : List (List mI) := [
  [(.aload 0, 0, 0, 0), (.iload 1, 0, 0, 0), (.i2l, 0, 0, 0), (.invokevirtual 179, 2, 12, 0), (.ifCond .eq 0, 1, 0, 0), (.aload 0, 0, 0, 0), (.iload 2, 0, 0, 0), (.sipush 1, 0, 0, 0), (.sipush 30, 0, 0, 0), (.invokevirtual 200, 4, 12, 0), (.ifCond .ne 0, 2, 0, 0)],
  [(.sipush (-1), 0, 0, 0), (.ireturn, 0, 0, 0)],
  [(.sipush 1, 0, 0, 0), (.iload 1, 0, 0, 0), (.ishl, 0, 0, 0), (.istore 3, 0, 0, 0), (.sipush 0, 0, 0, 0), (.istore 4, 0, 0, 0)],
  [(.iload 4, 0, 0, 0), (.aload 0, 0, 0, 0), (.invokevirtual 178, 1, 12, 0), (.if_icmp .ge 0, 5, 0, 0), (.aload 0, 0, 0, 0), (.iload 4, 0, 0, 0), (.invokevirtual 181, 2, 12, 0), (.ifCond .eq 0, 4, 0, 0), (.iload 3, 0, 0, 0), (.sipush 1, 0, 0, 0), (.iload 4, 0, 0, 0), (.ishl, 0, 0, 0), (.ior, 0, 0, 0), (.istore 3, 0, 0, 0)],
  [(.iinc 4 1, 0, 0, 0), (.goto 0, 3, 0, 0)],
  [(.sipush (-1), 0, 0, 0), (.istore 4, 0, 0, 0), (.aload 0, 0, 0, 0), (.invokevirtual 197, 1, 12, 0), (.sipush 0, 0, 0, 0), (.istore 5, 0, 0, 0)],
  [(.iload 5, 0, 0, 0), (.sipush 1, 0, 0, 0), (.aload 0, 0, 0, 0), (.invokevirtual 178, 1, 12, 0), (.ishl, 0, 0, 0), (.if_icmp .ge 0, 12, 0, 0), (.iload 5, 0, 0, 0), (.iload 3, 0, 0, 0), (.iand, 0, 0, 0), (.ifCond .ne 0, 11, 0, 0), (.iload 5, 0, 0, 0), (.invokestatic 201, 1, 12, 0), (.sipush 3, 0, 0, 0), (.if_icmp .gt 0, 11, 0, 0), (.iload 4, 0, 0, 0), (.sipush (-1), 0, 0, 0), (.if_icmp .eq 0, 7, 0, 0), (.iload 5, 0, 0, 0), (.invokestatic 201, 1, 12, 0), (.iload 4, 0, 0, 0), (.invokestatic 201, 1, 12, 0), (.if_icmp .lt 0, 7, 0, 0), (.goto 0, 11, 0, 0)],
  [(.sipush 0, 0, 0, 0), (.istore 6, 0, 0, 0)],
  [(.iload 6, 0, 0, 0), (.aload 0, 0, 0, 0), (.invokevirtual 178, 1, 12, 0), (.if_icmp .ge 0, 10, 0, 0), (.iload 5, 0, 0, 0), (.iload 6, 0, 0, 0), (.ishr, 0, 0, 0), (.sipush 1, 0, 0, 0), (.iand, 0, 0, 0), (.sipush 1, 0, 0, 0), (.if_icmp .ne 0, 9, 0, 0), (.aload 0, 0, 0, 0), (.getfield 2, 12, 47, 0), (.sipush 2, 0, 0, 0), (.sipush 4, 0, 0, 0), (.iload 6, 0, 0, 0), (.imul, 0, 0, 0), (.iadd, 0, 0, 0), (.sipush 1, 0, 0, 0), (.iastore, 0, 0, 0)],
  [(.iinc 6 1, 0, 0, 0), (.goto 0, 8, 0, 0)],
  [(.aload 0, 0, 0, 0), (.iload 1, 0, 0, 0), (.iload 2, 0, 0, 0), (.invokevirtual 213, 3, 12, 0), (.ifCond .eq 0, 11, 0, 0), (.iload 5, 0, 0, 0), (.istore 4, 0, 0, 0)],
  [(.iinc 5 1, 0, 0, 0), (.goto 0, 6, 0, 0)],
  [(.aload 0, 0, 0, 0), (.invokevirtual 199, 1, 12, 0), (.iload 4, 0, 0, 0), (.ireturn, 0, 0, 0)]]
def mk_215 : List (List mI) := [
  [(.iload 1, 0, 0, 0), (.i2l, 0, 0, 0), (.jsr 0, 0, 0, 0), (.jsr 1, 0, 0, 0), (.invokestatic 152, 3, 12, 0), (.ifCond .eq 0, 1, 0, 0), (.aload 0, 0, 0, 0), (.iload 2, 0, 0, 0), (.sipush 1, 0, 0, 0), (.sipush 60, 0, 0, 0), (.invokevirtual 200, 4, 12, 0), (.ifCond .ne 0, 2, 0, 0)],
  [(.sipush (-1), 0, 0, 0), (.ireturn, 0, 0, 0)],
  [(.aload 0, 0, 0, 0), (.invokevirtual 197, 1, 12, 0), (.aload 0, 0, 0, 0), (.sipush 0, 0, 0, 0), (.putfield 0, 12, 55, 0), (.aload 0, 0, 0, 0), (.sipush 0, 0, 0, 0), (.putfield 0, 12, 56, 0), (.aload 0, 0, 0, 0), (.iload 2, 0, 0, 0), (.invokevirtual 196, 2, 12, 0), (.aload 0, 0, 0, 0), (.invokevirtual 199, 1, 12, 0), (.iload 1, 0, 0, 0), (.ifCond .ne 0, 3, 0, 0), (.aload 0, 0, 0, 0), (.getfield 0, 12, 55, 0), (.goto 0, 4, 0, 0)],
  [(.aload 0, 0, 0, 0), (.getfield 0, 12, 56, 0)],
  [(.ireturn, 0, 0, 0)]]
def mk_216 : List (List mI) := [
  [(.aload 0, 0, 0, 0), (.invokevirtual 197, 1, 12, 0), (.sipush 0, 0, 0, 0), (.istore 2, 0, 0, 0)],
  [(.iload 2, 0, 0, 0), (.sipush 1, 0, 0, 0), (.aload 0, 0, 0, 0), (.invokevirtual 178, 1, 12, 0), (.ishl, 0, 0, 0), (.if_icmp .ge 0, 6, 0, 0), (.sipush 0, 0, 0, 0), (.istore 3, 0, 0, 0)],
  [(.iload 3, 0, 0, 0), (.aload 0, 0, 0, 0), (.invokevirtual 178, 1, 12, 0), (.if_icmp .ge 0, 3, 0, 0), (.aload 0, 0, 0, 0), (.getfield 2, 12, 47, 0), (.sipush 3, 0, 0, 0), (.sipush 4, 0, 0, 0), (.iload 3, 0, 0, 0), (.imul, 0, 0, 0), (.iadd, 0, 0, 0), (.iload 2, 0, 0, 0), (.iload 3, 0, 0, 0), (.ishr, 0, 0, 0), (.sipush 1, 0, 0, 0), (.iand, 0, 0, 0), (.iastore, 0, 0, 0), (.iinc 3 1, 0, 0, 0), (.goto 0, 2, 0, 0)],
  [(.aload 0, 0, 0, 0), (.iload 1, 0, 0, 0), (.invokevirtual 196, 2, 12, 0), (.sipush 0, 0, 0, 0), (.istore 3, 0, 0, 0)],
  [(.iload 3, 0, 0, 0), (.aload 0, 0, 0, 0), (.invokevirtual 178, 1, 12, 0), (.if_icmp .ge 0, 5, 0, 0), (.aload 0, 0, 0, 0), (.getfield 2, 12, 57, 0), (.sipush 7, 0, 0, 0), (.iload 2, 0, 0, 0), (.imul, 0, 0, 0), (.iload 3, 0, 0, 0), (.iadd, 0, 0, 0), (.aload 0, 0, 0, 0), (.iload 3, 0, 0, 0), (.invokevirtual 180, 2, 12, 0), (.iastore, 0, 0, 0), (.iinc 3 1, 0, 0, 0), (.goto 0, 4, 0, 0)],
  [(.aload 0, 0, 0, 0), (.invokevirtual 198, 1, 12, 0), (.iinc 2 1, 0, 0, 0), (.goto 0, 1, 0, 0)],
  [(.aload 0, 0, 0, 0), (.invokevirtual 199, 1, 12, 0), (.return_, 0, 0, 0)]]
def mk_217 : List (List mI) := [
  [(.sipush 0, 0, 0, 0), (.istore 2, 0, 0, 0)],
  [(.iload 2, 0, 0, 0), (.aload 0, 0, 0, 0), (.invokevirtual 178, 1, 12, 0), (.if_icmp .ge 0, 3, 0, 0), (.aload 0, 0, 0, 0), (.getfield 2, 12, 57, 0), (.sipush 7, 0, 0, 0), (.iload 1, 0, 0, 0), (.sipush 1, 0, 0, 0), (.iload 2, 0, 0, 0), (.ishl, 0, 0, 0), (.ixor, 0, 0, 0), (.imul, 0, 0, 0), (.iload 2, 0, 0, 0), (.iadd, 0, 0, 0), (.iaload, 0, 0, 0), (.aload 0, 0, 0, 0), (.getfield 2, 12, 57, 0), (.sipush 7, 0, 0, 0), (.iload 1, 0, 0, 0), (.imul, 0, 0, 0), (.iload 2, 0, 0, 0), (.iadd, 0, 0, 0), (.iaload, 0, 0, 0), (.if_icmp .ge 0, 2, 0, 0), (.sipush 0, 0, 0, 0), (.ireturn, 1, 0, 0)],
  [(.iinc 2 1, 0, 0, 0), (.goto 0, 1, 0, 0)],
  [(.sipush 1, 0, 0, 0), (.ireturn, 1, 0, 0)]]
def mk_218 : List (List mI) := [
  [(.aload 0, 0, 0, 0), (.iload 1, 0, 0, 0), (.sipush 1, 0, 0, 0), (.sipush 30, 0, 0, 0), (.invokevirtual 200, 4, 12, 0), (.ifCond .ne 0, 1, 0, 0), (.sipush (-1), 0, 0, 0), (.ireturn, 0, 0, 0)],
  [(.aload 0, 0, 0, 0), (.iload 1, 0, 0, 0), (.invokevirtual 216, 2, 12, 0), (.sipush (-1), 0, 0, 0), (.istore 2, 0, 0, 0), (.sipush 0, 0, 0, 0), (.istore 3, 0, 0, 0)],
  [(.iload 3, 0, 0, 0), (.sipush 1, 0, 0, 0), (.aload 0, 0, 0, 0), (.invokevirtual 178, 1, 12, 0), (.ishl, 0, 0, 0), (.if_icmp .ge 0, 5, 0, 0), (.iload 2, 0, 0, 0), (.sipush (-1), 0, 0, 0), (.if_icmp .eq 0, 3, 0, 0), (.iload 3, 0, 0, 0), (.invokestatic 201, 1, 12, 0), (.iload 2, 0, 0, 0), (.invokestatic 201, 1, 12, 0), (.if_icmp .ge 0, 4, 0, 0)],
  [(.aload 0, 0, 0, 0), (.iload 3, 0, 0, 0), (.invokevirtual 217, 2, 12, 0), (.ifCond .eq 0, 4, 0, 0), (.iload 3, 0, 0, 0), (.istore 2, 0, 0, 0)],
  [(.iinc 3 1, 0, 0, 0), (.goto 0, 2, 0, 0)],
  [(.iload 2, 0, 0, 0), (.ireturn, 0, 0, 0)]]
def mk_219 : List (List mI) := [
  [(.aload 0, 0, 0, 0), (.getfield 2, 12, 9, 0), (.iload 1, 0, 0, 0), (.dup2, 0, 0, 0), (.iaload, 0, 0, 0), (.sipush 1, 0, 0, 0), (.iadd, 0, 0, 0), (.iastore, 0, 0, 0), (.sipush (-1), 0, 0, 0), (.ireturn, 0, 0, 0)]]
def mk_220 : List (List mI) := [
  [(.aload 0, 0, 0, 0), (.getfield 0, 12, 1, 0), (.istore 1, 0, 0, 0), (.aload 0, 0, 0, 0), (.sipush 0, 0, 0, 0), (.putfield 0, 12, 1, 0), (.iload 1, 0, 0, 0), (.ifCond .le 0, 1, 0, 0), (.iload 1, 0, 0, 0), (.sipush 3, 0, 0, 0), (.irem, 0, 0, 0), (.ifCond .ne 0, 1, 0, 0), (.iload 1, 0, 0, 0), (.sipush 3, 0, 0, 0), (.idiv, 0, 0, 0), (.sipush 16, 0, 0, 0), (.if_icmp .gt 0, 1, 0, 0), (.sipush 1, 0, 0, 0), (.goto 0, 2, 0, 0)],
  [(.sipush 0, 0, 0, 0)],
  [(.istore 2, 0, 0, 0), (.sipush 0, 0, 0, 0), (.istore 3, 0, 0, 0)],
  [(.iload 3, 0, 0, 0), (.iload 1, 0, 0, 0), (.if_icmp .ge 0, 6, 0, 0), (.iload 2, 0, 0, 0), (.ifCond .eq 0, 6, 0, 0), (.aload 0, 0, 0, 0), (.getfield 2, 12, 0, 0), (.iload 3, 0, 0, 0), (.iaload, 0, 0, 0), (.sipush 30, 0, 0, 0), (.if_icmp .gt 0, 4, 0, 0), (.aload 0, 0, 0, 0), (.aload 0, 0, 0, 0), (.getfield 2, 12, 0, 0), (.iload 3, 0, 0, 0), (.sipush 1, 0, 0, 0), (.iadd, 0, 0, 0), (.iaload, 0, 0, 0), (.i2l, 0, 0, 0), (.invokevirtual 179, 2, 12, 0), (.ifCond .eq 0, 4, 0, 0), (.aload 0, 0, 0, 0), (.getfield 2, 12, 0, 0), (.iload 3, 0, 0, 0), (.sipush 2, 0, 0, 0), (.iadd, 0, 0, 0), (.iaload, 0, 0, 0), (.sipush 20, 0, 0, 0), (.if_icmp .gt 0, 4, 0, 0), (.sipush 1, 0, 0, 0), (.goto 0, 5, 0, 0)],
  [(.sipush 0, 0, 0, 0)],
  [(.istore 2, 0, 0, 0), (.iinc 3 3, 0, 0, 0), (.goto 0, 3, 0, 0)],
  [(.iload 2, 0, 0, 0), (.ifCond .ne 0, 7, 0, 0), (.aload 0, 0, 0, 0), (.sipush 1, 0, 0, 0), (.invokevirtual 219, 2, 12, 0), (.ireturn, 0, 0, 0)],
  [(.sipush 0, 0, 0, 0), (.istore 3, 0, 0, 0)],
  [(.iload 3, 0, 0, 0), (.iload 1, 0, 0, 0), (.if_icmp .ge 0, 9, 0, 0), (.aload 0, 0, 0, 0), (.getfield 2, 12, 59, 0), (.iload 3, 0, 0, 0), (.aload 0, 0, 0, 0), (.getfield 2, 12, 0, 0), (.iload 3, 0, 0, 0), (.iaload, 0, 0, 0), (.iastore, 0, 0, 0), (.iinc 3 1, 0, 0, 0), (.goto 0, 8, 0, 0)],
  [(.aload 0, 0, 0, 0), (.iload 1, 0, 0, 0), (.sipush 3, 0, 0, 0), (.idiv, 0, 0, 0), (.putfield 0, 12, 58, 0), (.aload 0, 0, 0, 0), (.getfield 0, 12, 58, 0), (.ireturn, 0, 0, 0)]]
def mk_221 : List (List mI) := [
  [(.sipush 0, 0, 0, 0), (.istore 2, 0, 0, 0)],
  [(.iload 2, 0, 0, 0), (.aload 0, 0, 0, 0), (.getfield 0, 12, 58, 0), (.if_icmp .ge 0, 4, 0, 0), (.aload 0, 0, 0, 0), (.getfield 2, 12, 59, 0), (.sipush 3, 0, 0, 0), (.iload 2, 0, 0, 0), (.imul, 0, 0, 0), (.iaload, 0, 0, 0), (.iload 1, 0, 0, 0), (.if_icmp .ne 0, 3, 0, 0), (.aload 0, 0, 0, 0), (.getfield 2, 12, 47, 0), (.sipush 0, 0, 0, 0), (.iaload, 0, 0, 0), (.sipush 999, 0, 0, 0), (.if_icmp .gt 0, 2, 0, 0), (.aload 0, 0, 0, 0), (.aload 0, 0, 0, 0), (.getfield 2, 12, 59, 0), (.sipush 3, 0, 0, 0), (.iload 2, 0, 0, 0), (.imul, 0, 0, 0), (.sipush 1, 0, 0, 0), (.iadd, 0, 0, 0), (.iaload, 0, 0, 0), (.invokevirtual 180, 2, 12, 0), (.aload 0, 0, 0, 0), (.getfield 2, 12, 59, 0), (.sipush 3, 0, 0, 0), (.iload 2, 0, 0, 0), (.imul, 0, 0, 0), (.sipush 2, 0, 0, 0), (.iadd, 0, 0, 0), (.iaload, 0, 0, 0), (.if_icmp .eq 0, 3, 0, 0)],
  [(.sipush 0, 0, 0, 0), (.ireturn, 1, 0, 0)],
  [(.iinc 2 1, 0, 0, 0), (.goto 0, 1, 0, 0)],
  [(.sipush 1, 0, 0, 0), (.ireturn, 1, 0, 0)]]
def mk_222 : List (List mI) := [
  [(.aload 0, 0, 0, 0), (.sipush 0, 0, 0, 0), (.putfield 0, 12, 62, 0), (.aload 0, 0, 0, 0), (.invokevirtual 197, 1, 12, 0), (.sipush 0, 0, 0, 0), (.istore 2, 0, 0, 0)],
  [(.iload 2, 0, 0, 0), (.sipush 21, 0, 0, 0), (.if_icmp .ge 0, 7, 0, 0), (.aload 0, 0, 0, 0), (.getfield 2, 12, 47, 0), (.sipush 1, 0, 0, 0), (.sipush 4, 0, 0, 0), (.iload 1, 0, 0, 0), (.imul, 0, 0, 0), (.iadd, 0, 0, 0), (.iload 2, 0, 0, 0), (.iastore, 0, 0, 0), (.sipush 1, 0, 0, 0), (.istore 3, 0, 0, 0), (.sipush 0, 0, 0, 0), (.istore 4, 0, 0, 0)],
  [(.iload 4, 0, 0, 0), (.sipush 30, 0, 0, 0), (.if_icmp .gt 0, 5, 0, 0), (.iload 3, 0, 0, 0), (.ifCond .eq 0, 3, 0, 0), (.aload 0, 0, 0, 0), (.iload 4, 0, 0, 0), (.invokevirtual 221, 2, 12, 0), (.ifCond .eq 0, 3, 0, 0), (.sipush 1, 0, 0, 0), (.goto 0, 4, 0, 0)],
  [(.sipush 0, 0, 0, 0)],
  [(.istore 3, 0, 0, 0), (.aload 0, 0, 0, 0), (.getfield 2, 12, 60, 0), (.sipush 31, 0, 0, 0), (.iload 2, 0, 0, 0), (.imul, 0, 0, 0), (.iload 4, 0, 0, 0), (.iadd, 0, 0, 0), (.aload 0, 0, 0, 0), (.iload 1, 0, 0, 0), (.invokevirtual 180, 2, 12, 0), (.iastore, 0, 0, 0), (.aload 0, 0, 0, 0), (.invokevirtual 195, 1, 12, 0), (.iinc 4 1, 0, 0, 0), (.goto 0, 2, 0, 0)],
  [(.aload 0, 0, 0, 0), (.invokevirtual 198, 1, 12, 0), (.aload 0, 0, 0, 0), (.getfield 2, 12, 61, 0), (.iload 2, 0, 0, 0), (.iload 3, 0, 0, 0), (.bastore, 0, 0, 0), (.iload 3, 0, 0, 0), (.ifCond .eq 0, 6, 0, 0), (.aload 0, 0, 0, 0), (.dup, 0, 0, 0), (.getfield 0, 12, 62, 0), (.sipush 1, 0, 0, 0), (.iadd, 0, 0, 0), (.putfield 0, 12, 62, 0)],
  [(.iinc 2 1, 0, 0, 0), (.goto 0, 1, 0, 0)],
  [(.aload 0, 0, 0, 0), (.invokevirtual 199, 1, 12, 0), (.return_, 0, 0, 0)]]
def mk_223 : List (List mI) := [
  [(.aload 0, 0, 0, 0), (.iload 1, 0, 0, 0), (.i2l, 0, 0, 0), (.invokevirtual 179, 2, 12, 0), (.ifCond .ne 0, 1, 0, 0), (.sipush (-1), 0, 0, 0), (.ireturn, 0, 0, 0)],
  [(.aload 0, 0, 0, 0), (.iload 1, 0, 0, 0), (.invokevirtual 222, 2, 12, 0), (.sipush 0, 0, 0, 0), (.istore 2, 0, 0, 0), (.sipush 0, 0, 0, 0), (.istore 3, 0, 0, 0)],
  [(.iload 3, 0, 0, 0), (.sipush 21, 0, 0, 0), (.if_icmp .ge 0, 4, 0, 0), (.aload 0, 0, 0, 0), (.getfield 2, 12, 61, 0), (.iload 3, 0, 0, 0), (.baload, 0, 0, 0), (.ifCond .eq 0, 3, 0, 0), (.iload 2, 0, 0, 0), (.sipush 1, 0, 0, 0), (.iload 3, 0, 0, 0), (.ishl, 0, 0, 0), (.ior, 0, 0, 0), (.istore 2, 0, 0, 0)],
  [(.iinc 3 1, 0, 0, 0), (.goto 0, 2, 0, 0)],
  [(.iload 2, 0, 0, 0), (.ireturn, 0, 0, 0)]]
def mk_224 : List (List mI) := [
  [(.sipush 0, 0, 0, 0), (.istore 2, 0, 0, 0), (.sipush 0, 0, 0, 0), (.istore 3, 0, 0, 0)],
  [(.iload 3, 0, 0, 0), (.sipush 21, 0, 0, 0), (.if_icmp .ge 0, 2, 0, 0), (.aload 0, 0, 0, 0), (.getfield 2, 12, 63, 0), (.iload 3, 0, 0, 0), (.sipush 0, 0, 0, 0), (.iastore, 0, 0, 0), (.iinc 3 1, 0, 0, 0), (.goto 0, 1, 0, 0)],
  [(.sipush 0, 0, 0, 0), (.istore 3, 0, 0, 0)],
  [(.iload 3, 0, 0, 0), (.sipush 21, 0, 0, 0), (.if_icmp .ge 0, 6, 0, 0), (.aload 0, 0, 0, 0), (.getfield 2, 12, 61, 0), (.iload 3, 0, 0, 0), (.baload, 0, 0, 0), (.ifCond .ne 0, 4, 0, 0), (.goto 0, 5, 0, 0)],
  [(.aload 0, 0, 0, 0), (.getfield 2, 12, 60, 0), (.sipush 31, 0, 0, 0), (.iload 3, 0, 0, 0), (.imul, 0, 0, 0), (.iload 1, 0, 0, 0), (.iadd, 0, 0, 0), (.iaload, 0, 0, 0), (.istore 4, 0, 0, 0), (.aload 0, 0, 0, 0), (.getfield 2, 12, 63, 0), (.iload 4, 0, 0, 0), (.dup2, 0, 0, 0), (.iaload, 0, 0, 0), (.sipush 1, 0, 0, 0), (.iadd, 0, 0, 0), (.iastore, 0, 0, 0), (.aload 0, 0, 0, 0), (.getfield 2, 12, 63, 0), (.iload 4, 0, 0, 0), (.iaload, 0, 0, 0), (.iload 2, 0, 0, 0), (.if_icmp .le 0, 5, 0, 0), (.aload 0, 0, 0, 0), (.getfield 2, 12, 63, 0), (.iload 4, 0, 0, 0), (.iaload, 0, 0, 0), (.istore 2, 0, 0, 0)],
  [(.iinc 3 1, 0, 0, 0), (.goto 0, 3, 0, 0)],
  [(.iload 2, 0, 0, 0), (.ireturn, 0, 0, 0)]]
def mk_225 : List (List mI) := [
  [(.aload 0, 0, 0, 0), (.iload 1, 0, 0, 0), (.i2l, 0, 0, 0), (.invokevirtual 179, 2, 12, 0), (.ifCond .eq 0, 1, 0, 0), (.iload 2, 0, 0, 0), (.i2l, 0, 0, 0), (.jsr 0, 0, 0, 0), (.jsr 1, 0, 0, 0), (.invokestatic 152, 3, 12, 0), (.ifCond .ne 0, 2, 0, 0)],
  [(.sipush (-1), 0, 0, 0), (.ireturn, 0, 0, 0)],
  [(.aload 0, 0, 0, 0), (.iload 1, 0, 0, 0), (.invokevirtual 222, 2, 12, 0), (.sipush (-1), 0, 0, 0), (.istore 3, 0, 0, 0), (.sipush 0, 0, 0, 0), (.istore 4, 0, 0, 0), (.sipush 1, 0, 0, 0), (.istore 5, 0, 0, 0)],
  [(.aload 0, 0, 0, 0), (.getfield 0, 12, 62, 0), (.ifCond .le 0, 6, 0, 0), (.aload 0, 0, 0, 0), (.iload 5, 0, 0, 0), (.sipush 1, 0, 0, 0), (.sipush 30, 0, 0, 0), (.invokevirtual 200, 4, 12, 0), (.ifCond .eq 0, 6, 0, 0), (.aload 0, 0, 0, 0), (.iload 5, 0, 0, 0), (.invokevirtual 224, 2, 12, 0), (.istore 6, 0, 0, 0), (.iload 3, 0, 0, 0), (.sipush (-1), 0, 0, 0), (.if_icmp .eq 0, 4, 0, 0), (.iload 6, 0, 0, 0), (.iload 4, 0, 0, 0), (.if_icmp .lt 0, 4, 0, 0), (.goto 0, 5, 0, 0)],
  [(.iload 5, 0, 0, 0), (.istore 3, 0, 0, 0), (.iload 6, 0, 0, 0), (.istore 4, 0, 0, 0)],
  [(.iinc 5 1, 0, 0, 0), (.goto 0, 3, 0, 0)],
  [(.iload 3, 0, 0, 0), (.sipush (-1), 0, 0, 0), (.if_icmp .ne 0, 7, 0, 0), (.sipush (-1), 0, 0, 0), (.goto 0, 9, 0, 0)],
  [(.iload 2, 0, 0, 0), (.ifCond .ne 0, 8, 0, 0), (.iload 3, 0, 0, 0), (.goto 0, 9, 0, 0)],
  [(.iload 4, 0, 0, 0)],
  [(.ireturn, 0, 0, 0)]]
def mk_226 : List (List mI) := [
  [(.aload 0, 0, 0, 0), (.aload 0, 0, 0, 0), (.getfield 0, 12, 66, 0), (.sipush 1, 0, 0, 0), (.iadd, 0, 0, 0), (.sipush 20, 0, 0, 0), (.irem, 0, 0, 0), (.putfield 0, 12, 66, 0), (.sipush 0, 0, 0, 0), (.istore 1, 0, 0, 0)],
  [(.iload 1, 0, 0, 0), (.sipush 150, 0, 0, 0), (.if_icmp .ge 0, 2, 0, 0), (.aload 0, 0, 0, 0), (.getfield 2, 12, 64, 0), (.sipush 150, 0, 0, 0), (.aload 0, 0, 0, 0), (.getfield 0, 12, 66, 0), (.imul, 0, 0, 0), (.iload 1, 0, 0, 0), (.iadd, 0, 0, 0), (.aload 0, 0, 0, 0), (.getfield 2, 12, 47, 0), (.iload 1, 0, 0, 0), (.iaload, 0, 0, 0), (.iastore, 0, 0, 0), (.iinc 1 1, 0, 0, 0), (.goto 0, 1, 0, 0)],
  [(.aload 0, 0, 0, 0), (.getfield 0, 12, 65, 0), (.sipush 20, 0, 0, 0), (.if_icmp .ge 0, 3, 0, 0), (.aload 0, 0, 0, 0), (.dup, 0, 0, 0), (.getfield 0, 12, 65, 0), (.sipush 1, 0, 0, 0), (.iadd, 0, 0, 0), (.putfield 0, 12, 65, 0)],
  [(.return_, 0, 0, 0)]]
def mk_227 : List (List mI) := [
  [(.aload 0, 0, 0, 0), (.getfield 0, 12, 65, 0), (.ifCond .ne 0, 1, 0, 0), (.aload 0, 0, 0, 0), (.getfield 2, 12, 9, 0), (.sipush 4, 0, 0, 0), (.dup2, 0, 0, 0), (.iaload, 0, 0, 0), (.sipush 1, 0, 0, 0), (.iadd, 0, 0, 0), (.iastore, 0, 0, 0), (.sipush 0, 0, 0, 0), (.ireturn, 1, 0, 0)],
  [(.sipush 0, 0, 0, 0), (.istore 1, 0, 0, 0)],
  [(.iload 1, 0, 0, 0), (.sipush 150, 0, 0, 0), (.if_icmp .ge 0, 3, 0, 0), (.aload 0, 0, 0, 0), (.getfield 2, 12, 47, 0), (.iload 1, 0, 0, 0), (.aload 0, 0, 0, 0), (.getfield 2, 12, 64, 0), (.sipush 150, 0, 0, 0), (.aload 0, 0, 0, 0), (.getfield 0, 12, 66, 0), (.imul, 0, 0, 0), (.iload 1, 0, 0, 0), (.iadd, 0, 0, 0), (.iaload, 0, 0, 0), (.iastore, 0, 0, 0), (.iinc 1 1, 0, 0, 0), (.goto 0, 2, 0, 0)],
  [(.aload 0, 0, 0, 0), (.aload 0, 0, 0, 0), (.getfield 0, 12, 66, 0), (.sipush 20, 0, 0, 0), (.iadd, 0, 0, 0), (.sipush 1, 0, 0, 0), (.isub, 0, 0, 0), (.sipush 20, 0, 0, 0), (.irem, 0, 0, 0), (.putfield 0, 12, 66, 0), (.aload 0, 0, 0, 0), (.dup, 0, 0, 0), (.getfield 0, 12, 65, 0), (.sipush 1, 0, 0, 0), (.isub, 0, 0, 0), (.putfield 0, 12, 65, 0), (.sipush 1, 0, 0, 0), (.ireturn, 1, 0, 0)]]
def mk_228 : List (List mI) := [
  [(.aload 0, 0, 0, 0), (.iload 1, 0, 0, 0), (.i2l, 0, 0, 0), (.invokevirtual 179, 2, 12, 0), (.ifCond .eq 0, 1, 0, 0), (.iload 4, 0, 0, 0), (.ifCond .eq 0, 1, 0, 0), (.aload 0, 0, 0, 0), (.getfield 2, 12, 47, 0), (.sipush 1, 0, 0, 0), (.sipush 4, 0, 0, 0), (.iload 1, 0, 0, 0), (.imul, 0, 0, 0), (.iadd, 0, 0, 0), (.iload 2, 0, 0, 0), (.iadd, 0, 0, 0), (.iaload, 0, 0, 0), (.iload 3, 0, 0, 0), (.if_icmp .ne 0, 2, 0, 0)],
  [(.aload 0, 0, 0, 0), (.getfield 2, 12, 9, 0), (.sipush 2, 0, 0, 0), (.dup2, 0, 0, 0), (.iaload, 0, 0, 0), (.sipush 1, 0, 0, 0), (.iadd, 0, 0, 0), (.iastore, 0, 0, 0), (.sipush 0, 0, 0, 0), (.ireturn, 1, 0, 0)],
  [(.aload 0, 0, 0, 0), (.invokevirtual 226, 1, 12, 0), (.aload 0, 0, 0, 0), (.getfield 2, 12, 47, 0), (.sipush 1, 0, 0, 0), (.sipush 4, 0, 0, 0), (.iload 1, 0, 0, 0), (.imul, 0, 0, 0), (.iadd, 0, 0, 0), (.iload 2, 0, 0, 0), (.iadd, 0, 0, 0), (.iload 3, 0, 0, 0), (.iastore, 0, 0, 0), (.sipush 1, 0, 0, 0), (.ireturn, 1, 0, 0)]]
def mk_229 : List (List mI) := [
  [(.aload 0, 0, 0, 0), (.iload 1, 0, 0, 0), (.sipush 3, 0, 0, 0), (.iload 2, 0, 0, 0), (.iload 2, 0, 0, 0), (.i2l, 0, 0, 0), (.jsr 0, 0, 0, 0), (.jsr 20, 0, 0, 0), (.invokestatic 152, 3, 12, 0), (.invokevirtual 228, 5, 12, 0), (.ireturn, 1, 0, 0)]]
def mk_230 : List (List mI) := [
  [(.aload 0, 0, 0, 0), (.iload 1, 0, 0, 0), (.sipush 3, 0, 0, 0), (.sipush (-2), 0, 0, 0), (.sipush 1, 0, 0, 0), (.invokevirtual 228, 5, 12, 0), (.ireturn, 1, 0, 0)]]
def mk_231 : List (List mI) := [
  [(.aload 0, 0, 0, 0), (.iload 1, 0, 0, 0), (.sipush 1, 0, 0, 0), (.iload 2, 0, 0, 0), (.iload 2, 0, 0, 0), (.i2l, 0, 0, 0), (.jsr 0, 0, 0, 0), (.jsr 1, 0, 0, 0), (.invokestatic 152, 3, 12, 0), (.invokevirtual 228, 5, 12, 0), (.ireturn, 1, 0, 0)]]
def mk_232 : List (List mI) := [
  [(.aload 0, 0, 0, 0), (.iload 1, 0, 0, 0), (.sipush 2, 0, 0, 0), (.iload 2, 0, 0, 0), (.iload 2, 0, 0, 0), (.i2l, 0, 0, 0), (.jsr 0, 0, 0, 0), (.jsr 1, 0, 0, 0), (.invokestatic 152, 3, 12, 0), (.invokevirtual 228, 5, 12, 0), (.ireturn, 1, 0, 0)]]
def mk_233 : List (List mI) := [
  [(.aload 0, 0, 0, 0), (.iload 1, 0, 0, 0), (.sipush 1, 0, 0, 0), (.sipush 100, 0, 0, 0), (.invokevirtual 200, 4, 12, 0), (.ifCond .ne 0, 1, 0, 0), (.aload 0, 0, 0, 0), (.sipush 3, 0, 0, 0), (.invokevirtual 219, 2, 12, 0), (.ireturn, 0, 0, 0)],
  [(.aload 0, 0, 0, 0), (.invokevirtual 226, 1, 12, 0), (.aload 0, 0, 0, 0), (.sipush 0, 0, 0, 0), (.putfield 0, 12, 54, 0), (.aload 0, 0, 0, 0), (.iload 1, 0, 0, 0), (.invokevirtual 196, 2, 12, 0), (.aload 0, 0, 0, 0), (.getfield 0, 12, 54, 0), (.ireturn, 0, 0, 0)]]
def mk_234 : List (List mI) := [
  [(.iload 1, 0, 0, 0), (.ifCond .ge 0, 1, 0, 0), (.aload 0, 0, 0, 0), (.getfield 2, 12, 9, 0), (.sipush 5, 0, 0, 0), (.dup2, 0, 0, 0), (.iaload, 0, 0, 0), (.sipush 1, 0, 0, 0), (.iadd, 0, 0, 0), (.iastore, 0, 0, 0), (.sipush 0, 0, 0, 0), (.ireturn, 1, 0, 0)],
  [(.aload 0, 0, 0, 0), (.iload 1, 0, 0, 0), (.i2l, 0, 0, 0), (.putfield 1, 12, 67, 0), (.sipush 1, 0, 0, 0), (.ireturn, 1, 0, 0)]]
def mk_235 : List (List mI) := [
  [(.aload 0, 0, 0, 0), (.jsr 1103515245, 0, 0, 0), (.aload 0, 0, 0, 0), (.getfield 1, 12, 67, 0), (.lmul, 0, 0, 0), (.jsr 12345, 0, 0, 0), (.ladd, 0, 0, 0), (.jsr 2147483648, 0, 0, 0), (.lrem, 0, 0, 0), (.putfield 1, 12, 67, 0), (.aload 0, 0, 0, 0), (.getfield 1, 12, 67, 0), (.jsr 64, 0, 0, 0), (.ldiv, 0, 0, 0), (.iload 1, 0, 0, 0), (.i2l, 0, 0, 0), (.lrem, 0, 0, 0), (.l2i, 0, 0, 0), (.ireturn, 0, 0, 0)]]
def mk_236 : List (List mI) := [
  [(.aload 0, 0, 0, 0), (.iload 1, 0, 0, 0), (.sipush 1, 0, 0, 0), (.sipush 100, 0, 0, 0), (.invokevirtual 200, 4, 12, 0), (.ifCond .ne 0, 1, 0, 0), (.aload 0, 0, 0, 0), (.sipush 3, 0, 0, 0), (.invokevirtual 219, 2, 12, 0), (.ireturn, 0, 0, 0)],
  [(.aload 0, 0, 0, 0), (.invokevirtual 226, 1, 12, 0), (.sipush 0, 0, 0, 0), (.istore 2, 0, 0, 0), (.sipush 0, 0, 0, 0), (.istore 3, 0, 0, 0)],
  [(.iload 3, 0, 0, 0), (.iload 1, 0, 0, 0), (.if_icmp .ge 0, 4, 0, 0), (.aload 0, 0, 0, 0), (.sipush 100, 0, 0, 0), (.invokevirtual 235, 2, 12, 0), (.aload 0, 0, 0, 0), (.getfield 2, 12, 40, 0), (.sipush 3, 0, 0, 0), (.iaload, 0, 0, 0), (.if_icmp .ge 0, 3, 0, 0), (.aload 0, 0, 0, 0), (.invokevirtual 178, 1, 12, 0), (.ifCond .le 0, 3, 0, 0), (.aload 0, 0, 0, 0), (.aload 0, 0, 0, 0), (.invokevirtual 178, 1, 12, 0), (.invokevirtual 235, 2, 12, 0), (.istore 4, 0, 0, 0), (.aload 0, 0, 0, 0), (.getfield 2, 12, 47, 0), (.sipush 4, 0, 0, 0), (.sipush 4, 0, 0, 0), (.iload 4, 0, 0, 0), (.imul, 0, 0, 0), (.iadd, 0, 0, 0), (.aload 0, 0, 0, 0), (.sipush 21, 0, 0, 0), (.invokevirtual 235, 2, 12, 0), (.iastore, 0, 0, 0), (.iinc 2 1, 0, 0, 0)],
  [(.aload 0, 0, 0, 0), (.invokevirtual 195, 1, 12, 0), (.iinc 3 1, 0, 0, 0), (.goto 0, 2, 0, 0)],
  [(.iload 2, 0, 0, 0), (.ireturn, 0, 0, 0)]]
def mk_237 : List (List mI) := [
  [(.aload 0, 0, 0, 0), (.getfield 2, 12, 88, 0), (.aload 0, 0, 0, 0), (.getfield 0, 12, 89, 0), (.iload 1, 0, 0, 0), (.iastore, 0, 0, 0), (.aload 0, 0, 0, 0), (.dup, 0, 0, 0), (.getfield 0, 12, 89, 0), (.sipush 1, 0, 0, 0), (.iadd, 0, 0, 0), (.putfield 0, 12, 89, 0), (.return_, 0, 0, 0)]]
def mk_238 : List (List mI) := [
  [(.aload 0, 0, 0, 0), (.getfield 0, 12, 5, 0), (.ifCond .eq 0, 1, 0, 0), (.return_, 0, 0, 0)],
  [(.aload 0, 0, 0, 0), (.getfield 0, 12, 92, 0), (.sipush 6, 0, 0, 0), (.if_icmp .ne 0, 2, 0, 0), (.aload 0, 0, 0, 0), (.sipush 4, 0, 0, 0), (.iload 2, 0, 0, 0), (.invokevirtual 155, 3, 12, 0), (.return_, 0, 0, 0)],
  [(.aload 0, 0, 0, 0), (.dup, 0, 0, 0), (.getfield 0, 12, 92, 0), (.sipush 1, 0, 0, 0), (.iadd, 0, 0, 0), (.putfield 0, 12, 92, 0), (.aload 0, 0, 0, 0), (.getfield 2, 12, 90, 0), (.aload 0, 0, 0, 0), (.getfield 0, 12, 91, 0), (.iload 1, 0, 0, 0), (.iastore, 0, 0, 0), (.aload 0, 0, 0, 0), (.dup, 0, 0, 0), (.getfield 0, 12, 91, 0), (.sipush 1, 0, 0, 0), (.iadd, 0, 0, 0), (.putfield 0, 12, 91, 0), (.return_, 0, 0, 0)]]
def mk_239 : List (List mI) := [
  [(.aload 0, 0, 0, 0), (.getfield 0, 12, 91, 0), (.ifCond .le 0, 1, 0, 0), (.aload 0, 0, 0, 0), (.getfield 2, 12, 90, 0), (.aload 0, 0, 0, 0), (.getfield 0, 12, 91, 0), (.sipush 1, 0, 0, 0), (.isub, 0, 0, 0), (.iaload, 0, 0, 0), (.iload 1, 0, 0, 0), (.if_icmp .ne 0, 1, 0, 0), (.sipush 1, 0, 0, 0), (.goto 0, 2, 0, 0)],
  [(.sipush 0, 0, 0, 0)],
  [(.ireturn, 1, 0, 0)]]
def mk_240 : List (List mI) := [
  [(.aload 0, 0, 0, 0), (.dup, 0, 0, 0), (.getfield 0, 12, 91, 0), (.sipush 1, 0, 0, 0), (.isub, 0, 0, 0), (.putfield 0, 12, 91, 0), (.aload 0, 0, 0, 0), (.aload 0, 0, 0, 0), (.getfield 2, 12, 90, 0), (.aload 0, 0, 0, 0), (.getfield 0, 12, 91, 0), (.iaload, 0, 0, 0), (.invokevirtual 237, 2, 12, 0), (.return_, 0, 0, 0)]]
def mk_241 : List (List mI) := [
  [(.iload 0, 0, 0, 0), (.sipush 20, 0, 0, 0), (.if_icmp .lt 0, 1, 0, 0), (.iload 0, 0, 0, 0), (.sipush 24, 0, 0, 0), (.if_icmp .gt 0, 1, 0, 0), (.sipush 1, 0, 0, 0), (.goto 0, 2, 0, 0)],
  [(.sipush 0, 0, 0, 0)],
  [(.ireturn, 1, 0, 0)]]
def mk_242 : List (List mI) := [
  [(.aload 0, 0, 0, 0), (.getfield 0, 12, 91, 0), (.sipush 1, 0, 0, 0), (.isub, 0, 0, 0), (.istore 1, 0, 0, 0)],
  [(.iload 1, 0, 0, 0), (.aload 0, 0, 0, 0), (.getfield 0, 12, 93, 0), (.if_icmp .lt 0, 2, 0, 0), (.aload 0, 0, 0, 0), (.getfield 2, 12, 90, 0), (.iload 1, 0, 0, 0), (.iaload, 0, 0, 0), (.invokestatic 241, 1, 12, 0), (.ifCond .ne 0, 2, 0, 0), (.iinc 1 (-1), 0, 0, 0), (.goto 0, 1, 0, 0)],
  [(.iload 1, 0, 0, 0), (.aload 0, 0, 0, 0), (.getfield 0, 12, 93, 0), (.if_icmp .lt 0, 3, 0, 0), (.aload 0, 0, 0, 0), (.getfield 2, 12, 90, 0), (.iload 1, 0, 0, 0), (.iaload, 0, 0, 0), (.goto 0, 4, 0, 0)],
  [(.sipush (-1), 0, 0, 0)],
  [(.ireturn, 0, 0, 0)]]
def mk_243 : List (List mI) := [
  [(.aload 0, 0, 0, 0), (.getfield 0, 12, 91, 0), (.aload 0, 0, 0, 0), (.getfield 0, 12, 93, 0), (.if_icmp .le 0, 1, 0, 0), (.aload 0, 0, 0, 0), (.getfield 2, 12, 90, 0), (.aload 0, 0, 0, 0), (.getfield 0, 12, 91, 0), (.sipush 1, 0, 0, 0), (.isub, 0, 0, 0), (.iaload, 0, 0, 0), (.invokestatic 241, 1, 12, 0), (.ifCond .ne 0, 1, 0, 0), (.aload 0, 0, 0, 0), (.invokevirtual 240, 1, 12, 0), (.goto 0, 0, 0, 0)],
  [(.return_, 0, 0, 0)]]
def mk_244 : List (List mI) := [
  [(.aload 0, 0, 0, 0), (.aload 0, 0, 0, 0), (.getfield 2, 12, 80, 0), (.invokevirtual 159, 2, 12, 0), (.ifCond .eq 0, 1, 0, 0), (.sipush 0, 0, 0, 0), (.ireturn, 0, 0, 0)],
  [(.aload 0, 0, 0, 0), (.aload 0, 0, 0, 0), (.getfield 2, 12, 72, 0), (.invokevirtual 159, 2, 12, 0), (.ifCond .eq 0, 2, 0, 0), (.sipush 1, 0, 0, 0), (.ireturn, 0, 0, 0)],
  [(.aload 0, 0, 0, 0), (.aload 0, 0, 0, 0), (.getfield 2, 12, 73, 0), (.invokevirtual 159, 2, 12, 0), (.ifCond .eq 0, 3, 0, 0), (.sipush 2, 0, 0, 0), (.ireturn, 0, 0, 0)],
  [(.aload 0, 0, 0, 0), (.aload 0, 0, 0, 0), (.getfield 2, 12, 81, 0), (.invokevirtual 159, 2, 12, 0), (.ifCond .eq 0, 4, 0, 0), (.sipush 3, 0, 0, 0), (.ireturn, 0, 0, 0)],
  [(.aload 0, 0, 0, 0), (.aload 0, 0, 0, 0), (.getfield 2, 12, 82, 0), (.invokevirtual 159, 2, 12, 0), (.ifCond .eq 0, 5, 0, 0), (.sipush 4, 0, 0, 0), (.ireturn, 0, 0, 0)],
  [(.aload 0, 0, 0, 0), (.aload 0, 0, 0, 0), (.getfield 2, 12, 83, 0), (.invokevirtual 159, 2, 12, 0), (.ifCond .eq 0, 6, 0, 0), (.sipush 5, 0, 0, 0), (.ireturn, 0, 0, 0)],
  [(.aload 0, 0, 0, 0), (.aload 0, 0, 0, 0), (.getfield 2, 12, 84, 0), (.invokevirtual 159, 2, 12, 0), (.ifCond .eq 0, 7, 0, 0), (.sipush 6, 0, 0, 0), (.ireturn, 0, 0, 0)],
  [(.aload 0, 0, 0, 0), (.aload 0, 0, 0, 0), (.getfield 2, 12, 85, 0), (.invokevirtual 159, 2, 12, 0), (.ifCond .eq 0, 8, 0, 0), (.sipush 7, 0, 0, 0), (.ireturn, 0, 0, 0)],
  [(.aload 0, 0, 0, 0), (.aload 0, 0, 0, 0), (.getfield 2, 12, 86, 0), (.invokevirtual 159, 2, 12, 0), (.ifCond .eq 0, 9, 0, 0), (.sipush 8, 0, 0, 0), (.ireturn, 0, 0, 0)],
  [(.aload 0, 0, 0, 0), (.aload 0, 0, 0, 0), (.getfield 2, 12, 87, 0), (.invokevirtual 159, 2, 12, 0), (.ifCond .eq 0, 10, 0, 0), (.sipush 9, 0, 0, 0), (.ireturn, 0, 0, 0)],
  [(.sipush (-1), 0, 0, 0), (.ireturn, 0, 0, 0)]]
def mk_245 : List (List mI) := [
  [(.aload 0, 0, 0, 0), (.invokevirtual 244, 1, 12, 0), (.istore 3, 0, 0, 0), (.iload 3, 0, 0, 0), (.iload 1, 0, 0, 0), (.if_icmp .lt 0, 1, 0, 0), (.iload 3, 0, 0, 0), (.iload 2, 0, 0, 0), (.if_icmp .ge 0, 1, 0, 0), (.aload 0, 0, 0, 0), (.iload 3, 0, 0, 0), (.invokevirtual 167, 2, 12, 0), (.ifCond .eq 0, 1, 0, 0), (.iload 3, 0, 0, 0), (.goto 0, 2, 0, 0)],
  [(.sipush (-1), 0, 0, 0)],
  [(.ireturn, 0, 0, 0)]]
def mk_246 : List (List mI) := [
  [(.iload 1, 0, 0, 0), (.tableswitch 10 0 8 #[1, 2, 3, 4, 5, 6, 7, 8, 9], 0, 0, 0)],
  [(.aload 0, 0, 0, 0), (.aload 0, 0, 0, 0), (.getfield 2, 12, 80, 0), (.invokevirtual 161, 2, 12, 0), (.goto 0, 11, 0, 0)],
  [(.aload 0, 0, 0, 0), (.aload 0, 0, 0, 0), (.getfield 2, 12, 72, 0), (.invokevirtual 161, 2, 12, 0), (.goto 0, 11, 0, 0)],
  [(.aload 0, 0, 0, 0), (.aload 0, 0, 0, 0), (.getfield 2, 12, 73, 0), (.invokevirtual 161, 2, 12, 0), (.goto 0, 11, 0, 0)],
  [(.aload 0, 0, 0, 0), (.aload 0, 0, 0, 0), (.getfield 2, 12, 81, 0), (.invokevirtual 161, 2, 12, 0), (.goto 0, 11, 0, 0)],
  [(.aload 0, 0, 0, 0), (.aload 0, 0, 0, 0), (.getfield 2, 12, 82, 0), (.invokevirtual 161, 2, 12, 0), (.goto 0, 11, 0, 0)],
  [(.aload 0, 0, 0, 0), (.aload 0, 0, 0, 0), (.getfield 2, 12, 83, 0), (.invokevirtual 161, 2, 12, 0), (.goto 0, 11, 0, 0)],
  [(.aload 0, 0, 0, 0), (.aload 0, 0, 0, 0), (.getfield 2, 12, 84, 0), (.invokevirtual 161, 2, 12, 0), (.goto 0, 11, 0, 0)],
  [(.aload 0, 0, 0, 0), (.aload 0, 0, 0, 0), (.getfield 2, 12, 85, 0), (.invokevirtual 161, 2, 12, 0), (.goto 0, 11, 0, 0)],
  [(.aload 0, 0, 0, 0), (.aload 0, 0, 0, 0), (.getfield 2, 12, 86, 0), (.invokevirtual 161, 2, 12, 0), (.goto 0, 11, 0, 0)],
  [(.aload 0, 0, 0, 0), (.aload 0, 0, 0, 0), (.getfield 2, 12, 87, 0), (.invokevirtual 161, 2, 12, 0)],
  [(.return_, 0, 0, 0)]]
def mk_247 : List (List mI) := [
  [(.aload 0, 0, 0, 0), (.getfield 0, 12, 5, 0), (.ifCond .ne 0, 1, 0, 0), (.aload 0, 0, 0, 0), (.getfield 0, 12, 91, 0), (.aload 0, 0, 0, 0), (.getfield 0, 12, 93, 0), (.if_icmp .le 0, 1, 0, 0), (.aload 0, 0, 0, 0), (.getfield 2, 12, 90, 0), (.aload 0, 0, 0, 0), (.getfield 0, 12, 91, 0), (.sipush 1, 0, 0, 0), (.isub, 0, 0, 0), (.iaload, 0, 0, 0), (.sipush 60, 0, 0, 0), (.if_icmp .lt 0, 1, 0, 0), (.aload 0, 0, 0, 0), (.dup, 0, 0, 0), (.getfield 0, 12, 92, 0), (.sipush 1, 0, 0, 0), (.isub, 0, 0, 0), (.putfield 0, 12, 92, 0), (.aload 0, 0, 0, 0), (.invokevirtual 240, 1, 12, 0), (.goto 0, 0, 0, 0)],
  [(.return_, 0, 0, 0)]]
def mk_248 : List (List mI) := [
  [(.sipush 1, 0, 0, 0), (.istore 1, 0, 0, 0)],
  [(.iload 1, 0, 0, 0), (.ifCond .eq 0, 13, 0, 0), (.aload 0, 0, 0, 0), (.getfield 0, 12, 5, 0), (.ifCond .ne 0, 13, 0, 0), (.aload 0, 0, 0, 0), (.invokevirtual 158, 1, 12, 0), (.istore 2, 0, 0, 0), (.aload 0, 0, 0, 0), (.sipush 9, 0, 0, 0), (.sipush 10, 0, 0, 0), (.invokevirtual 245, 3, 12, 0), (.istore 3, 0, 0, 0), (.iload 2, 0, 0, 0), (.sipush 40, 0, 0, 0), (.if_icmp .ne 0, 2, 0, 0), (.aload 0, 0, 0, 0), (.sipush 20, 0, 0, 0), (.aload 0, 0, 0, 0), (.getfield 0, 12, 2, 0), (.invokevirtual 238, 3, 12, 0), (.aload 0, 0, 0, 0), (.dup, 0, 0, 0), (.getfield 0, 12, 2, 0), (.sipush 1, 0, 0, 0), (.iadd, 0, 0, 0), (.putfield 0, 12, 2, 0), (.goto 0, 12, 0, 0)],
  [(.aload 0, 0, 0, 0), (.aload 0, 0, 0, 0), (.getfield 2, 12, 78, 0), (.invokevirtual 159, 2, 12, 0), (.ifCond .ne 0, 3, 0, 0), (.aload 0, 0, 0, 0), (.aload 0, 0, 0, 0), (.getfield 2, 12, 79, 0), (.invokevirtual 159, 2, 12, 0), (.ifCond .eq 0, 10, 0, 0)],
  [(.aload 0, 0, 0, 0), (.aload 0, 0, 0, 0), (.getfield 2, 12, 78, 0), (.invokevirtual 160, 2, 12, 0), (.istore 4, 0, 0, 0), (.iload 4, 0, 0, 0), (.ifCond .ne 0, 4, 0, 0), (.aload 0, 0, 0, 0), (.aload 0, 0, 0, 0), (.getfield 2, 12, 79, 0), (.invokevirtual 161, 2, 12, 0)],
  [(.aload 0, 0, 0, 0), (.invokevirtual 158, 1, 12, 0), (.sipush 40, 0, 0, 0), (.if_icmp .ne 0, 5, 0, 0), (.aload 0, 0, 0, 0), (.getfield 0, 12, 2, 0), (.goto 0, 6, 0, 0)],
  [(.sipush (-1), 0, 0, 0)],
  [(.istore 5, 0, 0, 0), (.iload 5, 0, 0, 0), (.sipush (-1), 0, 0, 0), (.if_icmp .eq 0, 9, 0, 0), (.aload 0, 0, 0, 0), (.iload 4, 0, 0, 0), (.ifCond .eq 0, 7, 0, 0), (.sipush 21, 0, 0, 0), (.goto 0, 8, 0, 0)],
  [(.sipush 22, 0, 0, 0)],
  [(.iload 5, 0, 0, 0), (.invokevirtual 238, 3, 12, 0)],
  [(.aload 0, 0, 0, 0), (.sipush 40, 0, 0, 0), (.invokevirtual 163, 2, 12, 0), (.goto 0, 12, 0, 0)],
  [(.iload 3, 0, 0, 0), (.sipush (-1), 0, 0, 0), (.if_icmp .eq 0, 11, 0, 0), (.aload 0, 0, 0, 0), (.sipush 60, 0, 0, 0), (.iload 3, 0, 0, 0), (.iadd, 0, 0, 0), (.sipush 9, 0, 0, 0), (.isub, 0, 0, 0), (.aload 0, 0, 0, 0), (.getfield 0, 12, 2, 0), (.invokevirtual 238, 3, 12, 0), (.aload 0, 0, 0, 0), (.iload 3, 0, 0, 0), (.invokevirtual 246, 2, 12, 0), (.goto 0, 12, 0, 0)],
  [(.sipush 0, 0, 0, 0), (.istore 1, 0, 0, 0)],
  [(.goto 0, 1, 0, 0)],
  [(.aload 0, 0, 0, 0), (.getfield 0, 12, 5, 0), (.ifCond .eq 0, 14, 0, 0), (.return_, 0, 0, 0)],
  [(.aload 0, 0, 0, 0), (.sipush 0, 0, 0, 0), (.sipush 9, 0, 0, 0), (.invokevirtual 245, 3, 12, 0), (.istore 2, 0, 0, 0), (.iload 2, 0, 0, 0), (.sipush (-1), 0, 0, 0), (.if_icmp .eq 0, 15, 0, 0), (.aload 0, 0, 0, 0), (.iload 2, 0, 0, 0), (.invokevirtual 246, 2, 12, 0)],
  [(.aload 0, 0, 0, 0), (.iload 2, 0, 0, 0), (.sipush (-1), 0, 0, 0), (.if_icmp .eq 0, 16, 0, 0), (.sipush 40, 0, 0, 0), (.iload 2, 0, 0, 0), (.iadd, 0, 0, 0), (.goto 0, 17, 0, 0)],
  [(.sipush 1000, 0, 0, 0), (.aload 0, 0, 0, 0), (.sipush 0, 0, 0, 0), (.sipush 9999, 0, 0, 0), (.invokevirtual 164, 3, 12, 0), (.iadd, 0, 0, 0)],
  [(.invokevirtual 237, 2, 12, 0), (.aload 0, 0, 0, 0), (.invokevirtual 247, 1, 12, 0), (.return_, 0, 0, 0)]]
def mk_249 : List (List mI) := [
  [(.aload 0, 0, 0, 0), (.getfield 0, 12, 5, 0), (.ifCond .ne 0, 5, 0, 0), (.aload 0, 0, 0, 0), (.invokevirtual 158, 1, 12, 0), (.sipush 41, 0, 0, 0), (.if_icmp .ne 0, 5, 0, 0), (.aload 0, 0, 0, 0), (.invokevirtual 242, 1, 12, 0), (.sipush 20, 0, 0, 0), (.if_icmp .eq 0, 1, 0, 0), (.aload 0, 0, 0, 0), (.invokevirtual 242, 1, 12, 0), (.sipush 23, 0, 0, 0), (.if_icmp .eq 0, 1, 0, 0), (.aload 0, 0, 0, 0), (.invokevirtual 242, 1, 12, 0), (.sipush 24, 0, 0, 0), (.if_icmp .ne 0, 5, 0, 0)],
  [(.aload 0, 0, 0, 0), (.dup, 0, 0, 0), (.getfield 0, 12, 2, 0), (.sipush 1, 0, 0, 0), (.iadd, 0, 0, 0), (.putfield 0, 12, 2, 0), (.aload 0, 0, 0, 0), (.invokevirtual 243, 1, 12, 0), (.aload 0, 0, 0, 0), (.dup, 0, 0, 0), (.getfield 0, 12, 91, 0), (.sipush 1, 0, 0, 0), (.isub, 0, 0, 0), (.putfield 0, 12, 91, 0), (.aload 0, 0, 0, 0), (.dup, 0, 0, 0), (.getfield 0, 12, 92, 0), (.sipush 1, 0, 0, 0), (.isub, 0, 0, 0), (.putfield 0, 12, 92, 0), (.aload 0, 0, 0, 0), (.getfield 2, 12, 90, 0), (.aload 0, 0, 0, 0), (.getfield 0, 12, 91, 0), (.iaload, 0, 0, 0), (.sipush 20, 0, 0, 0), (.if_icmp .eq 0, 4, 0, 0), (.aload 0, 0, 0, 0), (.aload 0, 0, 0, 0), (.getfield 2, 12, 90, 0), (.aload 0, 0, 0, 0), (.getfield 0, 12, 91, 0), (.iaload, 0, 0, 0), (.sipush 23, 0, 0, 0), (.if_icmp .ne 0, 2, 0, 0), (.sipush 5, 0, 0, 0), (.goto 0, 3, 0, 0)],
  [(.sipush 6, 0, 0, 0)],
  [(.invokevirtual 237, 2, 12, 0)],
  [(.aload 0, 0, 0, 0), (.invokevirtual 247, 1, 12, 0), (.goto 0, 0, 0, 0)],
  [(.aload 0, 0, 0, 0), (.sipush 42, 0, 0, 0), (.invokevirtual 162, 2, 12, 0), (.ifCond .ne 0, 6, 0, 0), (.aload 0, 0, 0, 0), (.sipush 47, 0, 0, 0), (.invokevirtual 162, 2, 12, 0), (.ifCond .eq 0, 12, 0, 0)],
  [(.aload 0, 0, 0, 0), (.getfield 2, 12, 0, 0), (.aload 0, 0, 0, 0), (.getfield 0, 12, 2, 0), (.sipush 1, 0, 0, 0), (.isub, 0, 0, 0), (.iaload, 0, 0, 0), (.sipush 42, 0, 0, 0), (.if_icmp .ne 0, 7, 0, 0), (.sipush 3, 0, 0, 0), (.goto 0, 8, 0, 0)],
  [(.sipush 4, 0, 0, 0)],
  [(.istore 1, 0, 0, 0)],
  [(.aload 0, 0, 0, 0), (.sipush 3, 0, 0, 0), (.invokevirtual 239, 2, 12, 0), (.ifCond .ne 0, 10, 0, 0), (.aload 0, 0, 0, 0), (.sipush 4, 0, 0, 0), (.invokevirtual 239, 2, 12, 0), (.ifCond .eq 0, 11, 0, 0)],
  [(.aload 0, 0, 0, 0), (.invokevirtual 240, 1, 12, 0), (.goto 0, 9, 0, 0)],
  [(.aload 0, 0, 0, 0), (.getfield 2, 12, 90, 0), (.aload 0, 0, 0, 0), (.getfield 0, 12, 91, 0), (.iload 1, 0, 0, 0), (.iastore, 0, 0, 0), (.aload 0, 0, 0, 0), (.dup, 0, 0, 0), (.getfield 0, 12, 91, 0), (.sipush 1, 0, 0, 0), (.iadd, 0, 0, 0), (.putfield 0, 12, 91, 0), (.sipush 1, 0, 0, 0), (.ireturn, 1, 0, 0)],
  [(.aload 0, 0, 0, 0), (.sipush 43, 0, 0, 0), (.invokevirtual 162, 2, 12, 0), (.ifCond .ne 0, 13, 0, 0), (.aload 0, 0, 0, 0), (.sipush 45, 0, 0, 0), (.invokevirtual 162, 2, 12, 0), (.ifCond .eq 0, 19, 0, 0)],
  [(.aload 0, 0, 0, 0), (.getfield 2, 12, 0, 0), (.aload 0, 0, 0, 0), (.getfield 0, 12, 2, 0), (.sipush 1, 0, 0, 0), (.isub, 0, 0, 0), (.iaload, 0, 0, 0), (.sipush 43, 0, 0, 0), (.if_icmp .ne 0, 14, 0, 0), (.sipush 1, 0, 0, 0), (.goto 0, 15, 0, 0)],
  [(.sipush 2, 0, 0, 0)],
  [(.istore 1, 0, 0, 0)],
  [(.aload 0, 0, 0, 0), (.sipush 3, 0, 0, 0), (.invokevirtual 239, 2, 12, 0), (.ifCond .ne 0, 17, 0, 0), (.aload 0, 0, 0, 0), (.sipush 4, 0, 0, 0), (.invokevirtual 239, 2, 12, 0), (.ifCond .ne 0, 17, 0, 0), (.aload 0, 0, 0, 0), (.sipush 1, 0, 0, 0), (.invokevirtual 239, 2, 12, 0), (.ifCond .ne 0, 17, 0, 0), (.aload 0, 0, 0, 0), (.sipush 2, 0, 0, 0), (.invokevirtual 239, 2, 12, 0), (.ifCond .eq 0, 18, 0, 0)],
  [(.aload 0, 0, 0, 0), (.invokevirtual 240, 1, 12, 0), (.goto 0, 16, 0, 0)],
  [(.aload 0, 0, 0, 0), (.getfield 2, 12, 90, 0), (.aload 0, 0, 0, 0), (.getfield 0, 12, 91, 0), (.iload 1, 0, 0, 0), (.iastore, 0, 0, 0), (.aload 0, 0, 0, 0), (.dup, 0, 0, 0), (.getfield 0, 12, 91, 0), (.sipush 1, 0, 0, 0), (.iadd, 0, 0, 0), (.putfield 0, 12, 91, 0), (.sipush 1, 0, 0, 0), (.ireturn, 1, 0, 0)],
  [(.aload 0, 0, 0, 0), (.invokevirtual 242, 1, 12, 0), (.sipush 21, 0, 0, 0), (.if_icmp .eq 0, 20, 0, 0), (.aload 0, 0, 0, 0), (.invokevirtual 242, 1, 12, 0), (.sipush 22, 0, 0, 0), (.if_icmp .ne 0, 22, 0, 0)],
  [(.aload 0, 0, 0, 0), (.sipush 44, 0, 0, 0), (.invokevirtual 163, 2, 12, 0), (.aload 0, 0, 0, 0), (.getfield 0, 12, 5, 0), (.ifCond .eq 0, 21, 0, 0), (.sipush 0, 0, 0, 0), (.ireturn, 1, 0, 0)],
  [(.aload 0, 0, 0, 0), (.invokevirtual 243, 1, 12, 0), (.aload 0, 0, 0, 0), (.getfield 2, 12, 90, 0), (.aload 0, 0, 0, 0), (.getfield 0, 12, 91, 0), (.sipush 1, 0, 0, 0), (.isub, 0, 0, 0), (.dup2, 0, 0, 0), (.iaload, 0, 0, 0), (.sipush 2, 0, 0, 0), (.iadd, 0, 0, 0), (.iastore, 0, 0, 0), (.sipush 1, 0, 0, 0), (.ireturn, 1, 0, 0)],
  [(.aload 0, 0, 0, 0), (.invokevirtual 242, 1, 12, 0), (.sipush (-1), 0, 0, 0), (.if_icmp .eq 0, 23, 0, 0), (.aload 0, 0, 0, 0), (.getfield 0, 12, 5, 0), (.ifCond .ne 0, 23, 0, 0), (.aload 0, 0, 0, 0), (.sipush 1, 0, 0, 0), (.aload 0, 0, 0, 0), (.getfield 0, 12, 2, 0), (.invokevirtual 155, 3, 12, 0)],
  [(.sipush 0, 0, 0, 0), (.ireturn, 1, 0, 0)]]
def mk_250 : List (List mI) := [
  [(.aload 0, 0, 0, 0), (.getfield 0, 12, 93, 0), (.istore 1, 0, 0, 0), (.aload 0, 0, 0, 0), (.aload 0, 0, 0, 0), (.getfield 0, 12, 91, 0), (.putfield 0, 12, 93, 0), (.sipush 1, 0, 0, 0), (.istore 2, 0, 0, 0)],
  [(.iload 2, 0, 0, 0), (.ifCond .eq 0, 4, 0, 0), (.aload 0, 0, 0, 0), (.getfield 0, 12, 5, 0), (.ifCond .ne 0, 4, 0, 0), (.aload 0, 0, 0, 0), (.invokevirtual 248, 1, 12, 0), (.aload 0, 0, 0, 0), (.getfield 0, 12, 5, 0), (.ifCond .ne 0, 2, 0, 0), (.aload 0, 0, 0, 0), (.invokevirtual 249, 1, 12, 0), (.ifCond .eq 0, 2, 0, 0), (.sipush 1, 0, 0, 0), (.goto 0, 3, 0, 0)],
  [(.sipush 0, 0, 0, 0)],
  [(.istore 2, 0, 0, 0), (.goto 0, 1, 0, 0)],
  [(.aload 0, 0, 0, 0), (.getfield 0, 12, 5, 0), (.ifCond .ne 0, 5, 0, 0), (.aload 0, 0, 0, 0), (.getfield 0, 12, 91, 0), (.aload 0, 0, 0, 0), (.getfield 0, 12, 93, 0), (.if_icmp .le 0, 5, 0, 0), (.aload 0, 0, 0, 0), (.invokevirtual 240, 1, 12, 0), (.goto 0, 4, 0, 0)],
  [(.aload 0, 0, 0, 0), (.iload 1, 0, 0, 0), (.putfield 0, 12, 93, 0), (.return_, 0, 0, 0)]]
def mk_251 : List (List mI) := [
  [(.aload 0, 0, 0, 0), (.aload 0, 0, 0, 0), (.getfield 2, 12, 77, 0), (.invokevirtual 160, 2, 12, 0), (.ifCond .eq 0, 1, 0, 0), (.aload 0, 0, 0, 0), (.sipush 13, 0, 0, 0), (.invokevirtual 237, 2, 12, 0), (.return_, 0, 0, 0)],
  [(.aload 0, 0, 0, 0), (.invokevirtual 250, 1, 12, 0), (.aload 0, 0, 0, 0), (.getfield 0, 12, 5, 0), (.ifCond .eq 0, 2, 0, 0), (.return_, 0, 0, 0)],
  [(.aload 0, 0, 0, 0), (.invokevirtual 158, 1, 12, 0), (.istore 1, 0, 0, 0), (.iload 1, 0, 0, 0), (.sipush 60, 0, 0, 0), (.if_icmp .eq 0, 3, 0, 0), (.iload 1, 0, 0, 0), (.sipush 62, 0, 0, 0), (.if_icmp .eq 0, 3, 0, 0), (.iload 1, 0, 0, 0), (.sipush 61, 0, 0, 0), (.if_icmp .eq 0, 3, 0, 0), (.aload 0, 0, 0, 0), (.sipush 1, 0, 0, 0), (.aload 0, 0, 0, 0), (.getfield 0, 12, 2, 0), (.invokevirtual 155, 3, 12, 0), (.return_, 0, 0, 0)],
  [(.aload 0, 0, 0, 0), (.dup, 0, 0, 0), (.getfield 0, 12, 2, 0), (.sipush 1, 0, 0, 0), (.iadd, 0, 0, 0), (.putfield 0, 12, 2, 0), (.aload 0, 0, 0, 0), (.invokevirtual 250, 1, 12, 0), (.aload 0, 0, 0, 0), (.iload 1, 0, 0, 0), (.sipush 60, 0, 0, 0), (.if_icmp .ne 0, 4, 0, 0), (.sipush 7, 0, 0, 0), (.goto 0, 6, 0, 0)],
  [(.iload 1, 0, 0, 0), (.sipush 62, 0, 0, 0), (.if_icmp .ne 0, 5, 0, 0), (.sipush 8, 0, 0, 0), (.goto 0, 6, 0, 0)],
  [(.sipush 9, 0, 0, 0)],
  [(.invokevirtual 237, 2, 12, 0), (.return_, 0, 0, 0)]]
def mk_252 : List (List mI) := [
  [(.sipush 0, 0, 0, 0), (.istore 1, 0, 0, 0)],
  [(.iload 1, 0, 0, 0), (.aload 0, 0, 0, 0), (.getfield 0, 12, 91, 0), (.if_icmp .ge 0, 3, 0, 0), (.aload 0, 0, 0, 0), (.getfield 2, 12, 90, 0), (.iload 1, 0, 0, 0), (.iaload, 0, 0, 0), (.sipush 25, 0, 0, 0), (.if_icmp .ne 0, 2, 0, 0), (.sipush 1, 0, 0, 0), (.ireturn, 1, 0, 0)],
  [(.iinc 1 1, 0, 0, 0), (.goto 0, 1, 0, 0)],
  [(.sipush 0, 0, 0, 0), (.ireturn, 1, 0, 0)]]
def mk_253 : List (List mI) := [
  [(.aload 0, 0, 0, 0), (.getfield 0, 12, 5, 0), (.ifCond .ne 0, 1, 0, 0), (.aload 0, 0, 0, 0), (.sipush 12, 0, 0, 0), (.invokevirtual 239, 2, 12, 0), (.ifCond .eq 0, 1, 0, 0), (.aload 0, 0, 0, 0), (.dup, 0, 0, 0), (.getfield 0, 12, 92, 0), (.sipush 1, 0, 0, 0), (.isub, 0, 0, 0), (.putfield 0, 12, 92, 0), (.aload 0, 0, 0, 0), (.invokevirtual 240, 1, 12, 0), (.goto 0, 0, 0, 0)],
  [(.return_, 0, 0, 0)]]
def mk_254 : List (List mI) := [
  [(.sipush 1, 0, 0, 0), (.istore 1, 0, 0, 0)],
  [(.iload 1, 0, 0, 0), (.ifCond .eq 0, 6, 0, 0), (.aload 0, 0, 0, 0), (.getfield 0, 12, 5, 0), (.ifCond .ne 0, 6, 0, 0), (.aload 0, 0, 0, 0), (.invokevirtual 158, 1, 12, 0), (.istore 2, 0, 0, 0), (.iload 2, 0, 0, 0), (.sipush 91, 0, 0, 0), (.if_icmp .ne 0, 2, 0, 0), (.aload 0, 0, 0, 0), (.sipush 25, 0, 0, 0), (.aload 0, 0, 0, 0), (.getfield 0, 12, 2, 0), (.invokevirtual 238, 3, 12, 0), (.aload 0, 0, 0, 0), (.dup, 0, 0, 0), (.getfield 0, 12, 2, 0), (.sipush 1, 0, 0, 0), (.iadd, 0, 0, 0), (.putfield 0, 12, 2, 0), (.goto 0, 1, 0, 0)],
  [(.aload 0, 0, 0, 0), (.aload 0, 0, 0, 0), (.getfield 2, 12, 74, 0), (.invokevirtual 159, 2, 12, 0), (.ifCond .eq 0, 3, 0, 0), (.aload 0, 0, 0, 0), (.sipush 12, 0, 0, 0), (.aload 0, 0, 0, 0), (.getfield 0, 12, 2, 0), (.invokevirtual 238, 3, 12, 0), (.aload 0, 0, 0, 0), (.aload 0, 0, 0, 0), (.getfield 2, 12, 74, 0), (.invokevirtual 161, 2, 12, 0), (.goto 0, 1, 0, 0)],
  [(.aload 0, 0, 0, 0), (.invokevirtual 251, 1, 12, 0), (.aload 0, 0, 0, 0), (.invokevirtual 253, 1, 12, 0), (.aload 0, 0, 0, 0), (.getfield 0, 12, 5, 0), (.ifCond .ne 0, 4, 0, 0), (.aload 0, 0, 0, 0), (.invokevirtual 255, 1, 12, 0), (.ifCond .eq 0, 4, 0, 0), (.sipush 1, 0, 0, 0), (.goto 0, 5, 0, 0)],
  [(.sipush 0, 0, 0, 0)],
  [(.istore 1, 0, 0, 0), (.goto 0, 1, 0, 0)],
  [(.aload 0, 0, 0, 0), (.getfield 0, 12, 5, 0), (.ifCond .ne 0, 7, 0, 0), (.aload 0, 0, 0, 0), (.getfield 0, 12, 91, 0), (.ifCond .le 0, 7, 0, 0), (.aload 0, 0, 0, 0), (.invokevirtual 240, 1, 12, 0), (.goto 0, 6, 0, 0)],
  [(.return_, 0, 0, 0)]]
def mk_255 : List (List mI) := [
  [(.aload 0, 0, 0, 0), (.getfield 0, 12, 5, 0), (.ifCond .ne 0, 3, 0, 0), (.aload 0, 0, 0, 0), (.invokevirtual 158, 1, 12, 0), (.sipush 93, 0, 0, 0), (.if_icmp .ne 0, 3, 0, 0), (.aload 0, 0, 0, 0), (.invokevirtual 252, 1, 12, 0), (.ifCond .eq 0, 3, 0, 0), (.aload 0, 0, 0, 0), (.dup, 0, 0, 0), (.getfield 0, 12, 2, 0), (.sipush 1, 0, 0, 0), (.iadd, 0, 0, 0), (.putfield 0, 12, 2, 0)],
  [(.aload 0, 0, 0, 0), (.sipush 25, 0, 0, 0), (.invokevirtual 239, 2, 12, 0), (.ifCond .ne 0, 2, 0, 0), (.aload 0, 0, 0, 0), (.invokevirtual 240, 1, 12, 0), (.goto 0, 1, 0, 0)],
  [(.aload 0, 0, 0, 0), (.dup, 0, 0, 0), (.getfield 0, 12, 91, 0), (.sipush 1, 0, 0, 0), (.isub, 0, 0, 0), (.putfield 0, 12, 91, 0), (.aload 0, 0, 0, 0), (.dup, 0, 0, 0), (.getfield 0, 12, 92, 0), (.sipush 1, 0, 0, 0), (.isub, 0, 0, 0), (.putfield 0, 12, 92, 0), (.aload 0, 0, 0, 0), (.invokevirtual 253, 1, 12, 0), (.goto 0, 0, 0, 0)],
  [(.aload 0, 0, 0, 0), (.aload 0, 0, 0, 0), (.getfield 2, 12, 75, 0), (.invokevirtual 160, 2, 12, 0), (.ifCond .eq 0, 6, 0, 0)],
  [(.aload 0, 0, 0, 0), (.sipush 10, 0, 0, 0), (.invokevirtual 239, 2, 12, 0), (.ifCond .eq 0, 5, 0, 0), (.aload 0, 0, 0, 0), (.invokevirtual 240, 1, 12, 0), (.goto 0, 4, 0, 0)],
  [(.aload 0, 0, 0, 0), (.getfield 2, 12, 90, 0), (.aload 0, 0, 0, 0), (.getfield 0, 12, 91, 0), (.sipush 10, 0, 0, 0), (.iastore, 0, 0, 0), (.aload 0, 0, 0, 0), (.dup, 0, 0, 0), (.getfield 0, 12, 91, 0), (.sipush 1, 0, 0, 0), (.iadd, 0, 0, 0), (.putfield 0, 12, 91, 0), (.sipush 1, 0, 0, 0), (.ireturn, 1, 0, 0)],
  [(.aload 0, 0, 0, 0), (.aload 0, 0, 0, 0), (.getfield 2, 12, 76, 0), (.invokevirtual 160, 2, 12, 0), (.ifCond .eq 0, 10, 0, 0)],
  [(.aload 0, 0, 0, 0), (.sipush 10, 0, 0, 0), (.invokevirtual 239, 2, 12, 0), (.ifCond .ne 0, 8, 0, 0), (.aload 0, 0, 0, 0), (.sipush 11, 0, 0, 0), (.invokevirtual 239, 2, 12, 0), (.ifCond .eq 0, 9, 0, 0)],
  [(.aload 0, 0, 0, 0), (.invokevirtual 240, 1, 12, 0), (.goto 0, 7, 0, 0)],
  [(.aload 0, 0, 0, 0), (.getfield 2, 12, 90, 0), (.aload 0, 0, 0, 0), (.getfield 0, 12, 91, 0), (.sipush 11, 0, 0, 0), (.iastore, 0, 0, 0), (.aload 0, 0, 0, 0), (.dup, 0, 0, 0), (.getfield 0, 12, 91, 0), (.sipush 1, 0, 0, 0), (.iadd, 0, 0, 0), (.putfield 0, 12, 91, 0), (.sipush 1, 0, 0, 0), (.ireturn, 1, 0, 0)],
  [(.aload 0, 0, 0, 0), (.getfield 0, 12, 5, 0), (.ifCond .ne 0, 11, 0, 0), (.aload 0, 0, 0, 0), (.invokevirtual 252, 1, 12, 0), (.ifCond .eq 0, 11, 0, 0), (.aload 0, 0, 0, 0), (.sipush 1, 0, 0, 0), (.aload 0, 0, 0, 0), (.getfield 0, 12, 2, 0), (.invokevirtual 155, 3, 12, 0)],
  [(.sipush 0, 0, 0, 0), (.ireturn, 1, 0, 0)]]
def mk_256 : List (List mI) := [
  [(.lload 0, 0, 0, 0), (.jsr 1000000, 0, 0, 0), (.lcmp, 0, 0, 0), (.ifCond .le 0, 1, 0, 0), (.jsr 1000000, 0, 0, 0), (.goto 0, 3, 0, 0)],
  [(.lload 0, 0, 0, 0), (.jsr (-1000000), 0, 0, 0), (.lcmp, 0, 0, 0), (.ifCond .ge 0, 2, 0, 0), (.jsr (-1000000), 0, 0, 0), (.goto 0, 3, 0, 0)],
  [(.lload 0, 0, 0, 0)],
  [(.lreturn, 0, 0, 0)]]
def mk_257 : List (List mI) := [
  [(.lload 2, 0, 0, 0), (.jsr 0, 0, 0, 0), (.lcmp, 0, 0, 0), (.ifCond .ne 0, 1, 0, 0), (.jsr 0, 0, 0, 0), (.lreturn, 0, 0, 0)],
  [(.lload 0, 0, 0, 0), (.lload 2, 0, 0, 0), (.ldiv, 0, 0, 0), (.lstore 4, 0, 0, 0), (.lload 0, 0, 0, 0), (.lload 2, 0, 0, 0), (.lrem, 0, 0, 0), (.jsr 0, 0, 0, 0), (.lcmp, 0, 0, 0), (.ifCond .eq 0, 6, 0, 0), (.lload 0, 0, 0, 0), (.jsr 0, 0, 0, 0), (.lcmp, 0, 0, 0), (.ifCond .ge 0, 2, 0, 0), (.sipush 1, 0, 0, 0), (.goto 0, 3, 0, 0)],
  [(.sipush 0, 0, 0, 0)],
  [(.lload 2, 0, 0, 0), (.jsr 0, 0, 0, 0), (.lcmp, 0, 0, 0), (.ifCond .ge 0, 4, 0, 0), (.sipush 1, 0, 0, 0), (.goto 0, 5, 0, 0)],
  [(.sipush 0, 0, 0, 0)],
  [(.if_icmp .eq 0, 6, 0, 0), (.lload 4, 0, 0, 0), (.jsr 1, 0, 0, 0), (.lsub, 0, 0, 0), (.goto 0, 7, 0, 0)],
  [(.lload 4, 0, 0, 0)],
  [(.lreturn, 0, 0, 0)]]
def mk_258 : List (List mI) := [
  [(.aload 0, 0, 0, 0), (.getfield 2, 12, 94, 0), (.aload 0, 0, 0, 0), (.getfield 0, 12, 95, 0), (.lload 1, 0, 0, 0), (.lastore, 0, 0, 0), (.aload 0, 0, 0, 0), (.dup, 0, 0, 0), (.getfield 0, 12, 95, 0), (.sipush 1, 0, 0, 0), (.iadd, 0, 0, 0), (.putfield 0, 12, 95, 0), (.return_, 0, 0, 0)]]
def mk_259 : List (List mI) := [
  [(.aload 0, 0, 0, 0), (.getfield 2, 12, 94, 0), (.aload 0, 0, 0, 0), (.getfield 0, 12, 95, 0), (.sipush 1, 0, 0, 0), (.isub, 0, 0, 0), (.laload, 0, 0, 0), (.lstore 2, 0, 0, 0), (.aload 0, 0, 0, 0), (.getfield 2, 12, 94, 0), (.aload 0, 0, 0, 0), (.getfield 0, 12, 95, 0), (.sipush 2, 0, 0, 0), (.isub, 0, 0, 0), (.laload, 0, 0, 0), (.lstore 4, 0, 0, 0), (.aload 0, 0, 0, 0), (.dup, 0, 0, 0), (.getfield 0, 12, 95, 0), (.sipush 2, 0, 0, 0), (.isub, 0, 0, 0), (.putfield 0, 12, 95, 0), (.iload 1, 0, 0, 0), (.tableswitch 21 1 10 #[1, 2, 3, 4, 5, 8, 11, 14, 17, 20], 0, 0, 0)],
  [(.aload 0, 0, 0, 0), (.lload 4, 0, 0, 0), (.lload 2, 0, 0, 0), (.ladd, 0, 0, 0), (.invokestatic 256, 1, 12, 0), (.invokevirtual 258, 2, 12, 0), (.goto 0, 24, 0, 0)],
  [(.aload 0, 0, 0, 0), (.lload 4, 0, 0, 0), (.lload 2, 0, 0, 0), (.lsub, 0, 0, 0), (.invokestatic 256, 1, 12, 0), (.invokevirtual 258, 2, 12, 0), (.goto 0, 24, 0, 0)],
  [(.aload 0, 0, 0, 0), (.lload 4, 0, 0, 0), (.lload 2, 0, 0, 0), (.lmul, 0, 0, 0), (.invokestatic 256, 1, 12, 0), (.invokevirtual 258, 2, 12, 0), (.goto 0, 24, 0, 0)],
  [(.aload 0, 0, 0, 0), (.lload 4, 0, 0, 0), (.lload 2, 0, 0, 0), (.invokestatic 257, 2, 12, 0), (.invokevirtual 258, 2, 12, 0), (.goto 0, 24, 0, 0)],
  [(.aload 0, 0, 0, 0), (.lload 4, 0, 0, 0), (.lload 2, 0, 0, 0), (.lcmp, 0, 0, 0), (.ifCond .ge 0, 6, 0, 0), (.lload 4, 0, 0, 0), (.goto 0, 7, 0, 0)],
  [(.lload 2, 0, 0, 0)],
  [(.invokevirtual 258, 2, 12, 0), (.goto 0, 24, 0, 0)],
  [(.aload 0, 0, 0, 0), (.lload 4, 0, 0, 0), (.lload 2, 0, 0, 0), (.lcmp, 0, 0, 0), (.ifCond .le 0, 9, 0, 0), (.lload 4, 0, 0, 0), (.goto 0, 10, 0, 0)],
  [(.lload 2, 0, 0, 0)],
  [(.invokevirtual 258, 2, 12, 0), (.goto 0, 24, 0, 0)],
  [(.aload 0, 0, 0, 0), (.lload 4, 0, 0, 0), (.lload 2, 0, 0, 0), (.lcmp, 0, 0, 0), (.ifCond .ge 0, 12, 0, 0), (.jsr 1, 0, 0, 0), (.goto 0, 13, 0, 0)],
  [(.jsr 0, 0, 0, 0)],
  [(.invokevirtual 258, 2, 12, 0), (.goto 0, 24, 0, 0)],
  [(.aload 0, 0, 0, 0), (.lload 4, 0, 0, 0), (.lload 2, 0, 0, 0), (.lcmp, 0, 0, 0), (.ifCond .le 0, 15, 0, 0), (.jsr 1, 0, 0, 0), (.goto 0, 16, 0, 0)],
  [(.jsr 0, 0, 0, 0)],
  [(.invokevirtual 258, 2, 12, 0), (.goto 0, 24, 0, 0)],
  [(.aload 0, 0, 0, 0), (.lload 4, 0, 0, 0), (.lload 2, 0, 0, 0), (.lcmp, 0, 0, 0), (.ifCond .ne 0, 18, 0, 0), (.jsr 1, 0, 0, 0), (.goto 0, 19, 0, 0)],
  [(.jsr 0, 0, 0, 0)],
  [(.invokevirtual 258, 2, 12, 0), (.goto 0, 24, 0, 0)],
  [(.aload 0, 0, 0, 0), (.lload 4, 0, 0, 0), (.lload 2, 0, 0, 0), (.lmul, 0, 0, 0), (.invokevirtual 258, 2, 12, 0), (.goto 0, 24, 0, 0)],
  [(.aload 0, 0, 0, 0), (.lload 4, 0, 0, 0), (.lload 2, 0, 0, 0), (.ladd, 0, 0, 0), (.jsr 0, 0, 0, 0), (.lcmp, 0, 0, 0), (.ifCond .le 0, 22, 0, 0), (.jsr 1, 0, 0, 0), (.goto 0, 23, 0, 0)],
  [(.jsr 0, 0, 0, 0)],
  [(.invokevirtual 258, 2, 12, 0)],
  [(.return_, 0, 0, 0)]]
def mk_260 : List (List mI) := [
  [(.iload 1, 0, 0, 0), (.tableswitch 11 0 7 #[1, 2, 3, 4, 5, 6, 7, 8], 0, 0, 0)],
  [(.aload 0, 0, 0, 0), (.iload 2, 0, 0, 0), (.invokevirtual 180, 2, 12, 0), (.i2l, 0, 0, 0), (.lreturn, 0, 0, 0)],
  [(.aload 0, 0, 0, 0), (.iload 2, 0, 0, 0), (.sipush 1, 0, 0, 0), (.invokevirtual 185, 3, 12, 0), (.i2l, 0, 0, 0), (.lreturn, 0, 0, 0)],
  [(.aload 0, 0, 0, 0), (.iload 2, 0, 0, 0), (.sipush 0, 0, 0, 0), (.invokevirtual 185, 3, 12, 0), (.i2l, 0, 0, 0), (.lreturn, 0, 0, 0)],
  [(.aload 0, 0, 0, 0), (.getfield 2, 12, 47, 0), (.sipush 0, 0, 0, 0), (.iaload, 0, 0, 0), (.i2l, 0, 0, 0), (.lreturn, 0, 0, 0)],
  [(.aload 0, 0, 0, 0), (.invokevirtual 187, 1, 12, 0), (.i2l, 0, 0, 0), (.lreturn, 0, 0, 0)],
  [(.aload 0, 0, 0, 0), (.getfield 2, 12, 49, 0), (.iload 2, 0, 0, 0), (.iaload, 0, 0, 0), (.i2l, 0, 0, 0), (.lreturn, 0, 0, 0)],
  [(.iload 2, 0, 0, 0), (.i2l, 0, 0, 0), (.lreturn, 0, 0, 0)],
  [(.aload 0, 0, 0, 0), (.iload 2, 0, 0, 0), (.invokevirtual 181, 2, 12, 0), (.ifCond .eq 0, 9, 0, 0), (.jsr 1, 0, 0, 0), (.goto 0, 10, 0, 0)],
  [(.jsr 0, 0, 0, 0)],
  [(.lreturn, 0, 0, 0)],
  [(.aload 0, 0, 0, 0), (.iload 2, 0, 0, 0), (.invokevirtual 182, 2, 12, 0), (.ifCond .eq 0, 12, 0, 0), (.jsr 1, 0, 0, 0), (.goto 0, 13, 0, 0)],
  [(.jsr 0, 0, 0, 0)],
  [(.lreturn, 0, 0, 0)]]
def mk_261 : List (List mI) := [
  [(.iload 1, 0, 0, 0), (.lookupswitch 1 #[], 0, 0, 0)],
  [(.aload 0, 0, 0, 0), (.lload 2, 0, 0, 0), (.invokevirtual 179, 2, 12, 0), (.ifCond .eq 0, 2, 0, 0), (.aload 0, 0, 0, 0), (.iload 4, 0, 0, 0), (.lload 2, 0, 0, 0), (.l2i, 0, 0, 0), (.invokevirtual 184, 3, 12, 0), (.ifCond .eq 0, 2, 0, 0), (.jsr 1, 0, 0, 0), (.goto 0, 3, 0, 0)],
  [(.jsr 0, 0, 0, 0)],
  [(.lreturn, 0, 0, 0)]]
def mk_262 : List (List mI) := [
  [(.aload 0, 0, 0, 0), (.sipush 0, 0, 0, 0), (.putfield 0, 12, 95, 0), (.sipush 0, 0, 0, 0), (.istore 2, 0, 0, 0)],
  [(.iload 2, 0, 0, 0), (.aload 0, 0, 0, 0), (.getfield 0, 12, 89, 0), (.if_icmp .ge 0, 8, 0, 0), (.aload 0, 0, 0, 0), (.getfield 2, 12, 88, 0), (.iload 2, 0, 0, 0), (.iaload, 0, 0, 0), (.istore 3, 0, 0, 0), (.iload 3, 0, 0, 0), (.sipush 1000, 0, 0, 0), (.if_icmp .lt 0, 2, 0, 0), (.aload 0, 0, 0, 0), (.iload 3, 0, 0, 0), (.sipush 1000, 0, 0, 0), (.isub, 0, 0, 0), (.i2l, 0, 0, 0), (.invokevirtual 258, 2, 12, 0), (.goto 0, 7, 0, 0)],
  [(.iload 3, 0, 0, 0), (.sipush 60, 0, 0, 0), (.if_icmp .lt 0, 3, 0, 0), (.aload 0, 0, 0, 0), (.getfield 2, 12, 94, 0), (.aload 0, 0, 0, 0), (.getfield 0, 12, 95, 0), (.sipush 1, 0, 0, 0), (.isub, 0, 0, 0), (.aload 0, 0, 0, 0), (.iload 3, 0, 0, 0), (.sipush 60, 0, 0, 0), (.isub, 0, 0, 0), (.aload 0, 0, 0, 0), (.getfield 2, 12, 94, 0), (.aload 0, 0, 0, 0), (.getfield 0, 12, 95, 0), (.sipush 1, 0, 0, 0), (.isub, 0, 0, 0), (.laload, 0, 0, 0), (.iload 1, 0, 0, 0), (.invokevirtual 261, 4, 12, 0), (.invokestatic 256, 1, 12, 0), (.lastore, 0, 0, 0), (.goto 0, 7, 0, 0)],
  [(.iload 3, 0, 0, 0), (.sipush 40, 0, 0, 0), (.if_icmp .lt 0, 4, 0, 0), (.aload 0, 0, 0, 0), (.aload 0, 0, 0, 0), (.iload 3, 0, 0, 0), (.sipush 40, 0, 0, 0), (.isub, 0, 0, 0), (.iload 1, 0, 0, 0), (.invokevirtual 260, 3, 12, 0), (.invokestatic 256, 1, 12, 0), (.invokevirtual 258, 2, 12, 0), (.goto 0, 7, 0, 0)],
  [(.iload 3, 0, 0, 0), (.sipush 13, 0, 0, 0), (.if_icmp .ne 0, 5, 0, 0), (.aload 0, 0, 0, 0), (.jsr 1, 0, 0, 0), (.invokevirtual 258, 2, 12, 0), (.goto 0, 7, 0, 0)],
  [(.iload 3, 0, 0, 0), (.sipush 12, 0, 0, 0), (.if_icmp .ne 0, 6, 0, 0), (.aload 0, 0, 0, 0), (.getfield 2, 12, 94, 0), (.aload 0, 0, 0, 0), (.getfield 0, 12, 95, 0), (.sipush 1, 0, 0, 0), (.isub, 0, 0, 0), (.jsr 1, 0, 0, 0), (.aload 0, 0, 0, 0), (.getfield 2, 12, 94, 0), (.aload 0, 0, 0, 0), (.getfield 0, 12, 95, 0), (.sipush 1, 0, 0, 0), (.isub, 0, 0, 0), (.laload, 0, 0, 0), (.lsub, 0, 0, 0), (.lastore, 0, 0, 0), (.goto 0, 7, 0, 0)],
  [(.aload 0, 0, 0, 0), (.iload 3, 0, 0, 0), (.invokevirtual 259, 2, 12, 0)],
  [(.iinc 2 1, 0, 0, 0), (.goto 0, 1, 0, 0)],
  [(.aload 0, 0, 0, 0), (.getfield 2, 12, 94, 0), (.sipush 0, 0, 0, 0), (.laload, 0, 0, 0), (.lreturn, 0, 0, 0)]]
def mk_263 : List (List mI) := [
  [(.aload 0, 0, 0, 0), (.aload 0, 0, 0, 0), (.getfield 2, 12, 68, 0), (.invokevirtual 160, 2, 12, 0), (.ifCond .eq 0, 1, 0, 0), (.sipush 0, 0, 0, 0), (.goto 0, 6, 0, 0)],
  [(.aload 0, 0, 0, 0), (.aload 0, 0, 0, 0), (.getfield 2, 12, 69, 0), (.invokevirtual 160, 2, 12, 0), (.ifCond .eq 0, 2, 0, 0), (.sipush 1, 0, 0, 0), (.goto 0, 6, 0, 0)],
  [(.aload 0, 0, 0, 0), (.aload 0, 0, 0, 0), (.getfield 2, 12, 70, 0), (.invokevirtual 160, 2, 12, 0), (.ifCond .eq 0, 3, 0, 0), (.sipush 2, 0, 0, 0), (.goto 0, 6, 0, 0)],
  [(.aload 0, 0, 0, 0), (.aload 0, 0, 0, 0), (.getfield 2, 12, 71, 0), (.invokevirtual 160, 2, 12, 0), (.ifCond .eq 0, 4, 0, 0), (.sipush 3, 0, 0, 0), (.goto 0, 6, 0, 0)],
  [(.aload 0, 0, 0, 0), (.aload 0, 0, 0, 0), (.getfield 2, 12, 72, 0), (.invokevirtual 160, 2, 12, 0), (.ifCond .eq 0, 5, 0, 0), (.sipush 4, 0, 0, 0), (.goto 0, 6, 0, 0)],
  [(.sipush 5, 0, 0, 0)],
  [(.istore 1, 0, 0, 0), (.iload 1, 0, 0, 0), (.sipush 5, 0, 0, 0), (.if_icmp .ne 0, 7, 0, 0), (.aload 0, 0, 0, 0), (.aload 0, 0, 0, 0), (.getfield 2, 12, 73, 0), (.invokevirtual 161, 2, 12, 0)],
  [(.iload 1, 0, 0, 0), (.ireturn, 0, 0, 0)]]
def mk_264 : List (List mI) := [
  [(.iload 1, 0, 0, 0), (.sipush 3, 0, 0, 0), (.if_icmp .ge 0, 1, 0, 0), (.lload 2, 0, 0, 0), (.jsr 1, 0, 0, 0), (.lcmp, 0, 0, 0), (.ifCond .ne 0, 1, 0, 0), (.sipush 1, 0, 0, 0), (.goto 0, 2, 0, 0)],
  [(.sipush 0, 0, 0, 0)],
  [(.istore 5, 0, 0, 0), (.iload 1, 0, 0, 0), (.ifCond .ne 0, 3, 0, 0), (.iload 5, 0, 0, 0), (.ifCond .eq 0, 3, 0, 0), (.aload 0, 0, 0, 0), (.getfield 1, 12, 96, 0), (.jsr (-1), 0, 0, 0), (.lcmp, 0, 0, 0), (.ifCond .eq 0, 4, 0, 0)],
  [(.iload 1, 0, 0, 0), (.sipush 1, 0, 0, 0), (.if_icmp .ne 0, 5, 0, 0), (.iload 5, 0, 0, 0), (.ifCond .eq 0, 5, 0, 0)],
  [(.aload 0, 0, 0, 0), (.iload 4, 0, 0, 0), (.i2l, 0, 0, 0), (.putfield 1, 12, 96, 0)],
  [(.iload 1, 0, 0, 0), (.sipush 2, 0, 0, 0), (.if_icmp .ne 0, 6, 0, 0), (.iload 5, 0, 0, 0), (.ifCond .eq 0, 6, 0, 0), (.aload 0, 0, 0, 0), (.dup, 0, 0, 0), (.getfield 1, 12, 96, 0), (.jsr 1, 0, 0, 0), (.ladd, 0, 0, 0), (.putfield 1, 12, 96, 0)],
  [(.iload 1, 0, 0, 0), (.sipush 3, 0, 0, 0), (.if_icmp .ne 0, 7, 0, 0), (.aload 0, 0, 0, 0), (.dup, 0, 0, 0), (.getfield 1, 12, 96, 0), (.lload 2, 0, 0, 0), (.ladd, 0, 0, 0), (.putfield 1, 12, 96, 0)],
  [(.iload 1, 0, 0, 0), (.sipush 3, 0, 0, 0), (.if_icmp .le 0, 10, 0, 0), (.aload 0, 0, 0, 0), (.getfield 0, 12, 97, 0), (.ifCond .ne 0, 9, 0, 0), (.iload 1, 0, 0, 0), (.sipush 4, 0, 0, 0), (.if_icmp .ne 0, 8, 0, 0), (.lload 2, 0, 0, 0), (.aload 0, 0, 0, 0), (.getfield 1, 12, 96, 0), (.lcmp, 0, 0, 0), (.ifCond .le 0, 10, 0, 0), (.goto 0, 9, 0, 0)],
  [(.lload 2, 0, 0, 0), (.aload 0, 0, 0, 0), (.getfield 1, 12, 96, 0), (.lcmp, 0, 0, 0), (.ifCond .ge 0, 10, 0, 0)],
  [(.aload 0, 0, 0, 0), (.lload 2, 0, 0, 0), (.putfield 1, 12, 96, 0)],
  [(.aload 0, 0, 0, 0), (.sipush 0, 0, 0, 0), (.putfield 3, 12, 97, 0), (.return_, 0, 0, 0)]]
def mk_265 : List (List mI) := [
  [(.aload 0, 0, 0, 0), (.aload 0, 0, 0, 0), (.getfield 0, 12, 1, 0), (.putfield 0, 12, 3, 0), (.aload 0, 0, 0, 0), (.sipush 0, 0, 0, 0), (.putfield 0, 12, 1, 0), (.aload 0, 0, 0, 0), (.sipush 0, 0, 0, 0), (.putfield 0, 12, 2, 0), (.aload 0, 0, 0, 0), (.sipush (-1), 0, 0, 0), (.putfield 0, 12, 4, 0), (.aload 0, 0, 0, 0), (.sipush 0, 0, 0, 0), (.putfield 0, 12, 5, 0), (.aload 0, 0, 0, 0), (.sipush (-1), 0, 0, 0), (.putfield 0, 12, 6, 0), (.aload 0, 0, 0, 0), (.sipush 2, 0, 0, 0), (.putfield 0, 12, 46, 0), (.aload 0, 0, 0, 0), (.sipush 0, 0, 0, 0), (.putfield 0, 12, 89, 0), (.aload 0, 0, 0, 0), (.sipush 0, 0, 0, 0), (.putfield 0, 12, 91, 0), (.aload 0, 0, 0, 0), (.sipush 0, 0, 0, 0), (.putfield 0, 12, 92, 0), (.aload 0, 0, 0, 0), (.sipush 0, 0, 0, 0), (.putfield 0, 12, 93, 0), (.aload 0, 0, 0, 0), (.invokevirtual 263, 1, 12, 0), (.istore 1, 0, 0, 0), (.aload 0, 0, 0, 0), (.getfield 0, 12, 5, 0), (.ifCond .ne 0, 1, 0, 0), (.iload 1, 0, 0, 0), (.sipush 3, 0, 0, 0), (.if_icmp .ge 0, 1, 0, 0), (.aload 0, 0, 0, 0), (.invokevirtual 254, 1, 12, 0), (.goto 0, 2, 0, 0)],
  [(.aload 0, 0, 0, 0), (.getfield 0, 12, 5, 0), (.ifCond .ne 0, 2, 0, 0), (.aload 0, 0, 0, 0), (.invokevirtual 250, 1, 12, 0)],
  [(.aload 0, 0, 0, 0), (.getfield 0, 12, 5, 0), (.ifCond .ne 0, 3, 0, 0), (.aload 0, 0, 0, 0), (.invokevirtual 158, 1, 12, 0), (.sipush (-1), 0, 0, 0), (.if_icmp .eq 0, 3, 0, 0), (.aload 0, 0, 0, 0), (.sipush 1, 0, 0, 0), (.aload 0, 0, 0, 0), (.getfield 0, 12, 2, 0), (.invokevirtual 155, 3, 12, 0)],
  [(.aload 0, 0, 0, 0), (.aload 0, 0, 0, 0), (.getfield 0, 12, 5, 0), (.putfield 0, 12, 7, 0), (.aload 0, 0, 0, 0), (.aload 0, 0, 0, 0), (.getfield 0, 12, 6, 0), (.putfield 0, 12, 8, 0), (.aload 0, 0, 0, 0), (.getfield 0, 12, 5, 0), (.ifCond .eq 0, 4, 0, 0), (.jsr (-1000000000000000), 0, 0, 0), (.lreturn, 0, 0, 0)],
  [(.aload 0, 0, 0, 0), (.iload 1, 0, 0, 0), (.sipush 2, 0, 0, 0), (.if_icmp .ge 0, 5, 0, 0), (.jsr (-1), 0, 0, 0), (.goto 0, 6, 0, 0)],
  [(.jsr 0, 0, 0, 0)],
  [(.putfield 1, 12, 96, 0), (.aload 0, 0, 0, 0), (.sipush 1, 0, 0, 0), (.putfield 3, 12, 97, 0), (.aload 0, 0, 0, 0), (.invokevirtual 192, 1, 12, 0), (.aload 0, 0, 0, 0), (.sipush 2, 0, 0, 0), (.putfield 0, 12, 46, 0), (.sipush 0, 0, 0, 0), (.istore 2, 0, 0, 0)],
  [(.iload 2, 0, 0, 0), (.aload 0, 0, 0, 0), (.invokevirtual 178, 1, 12, 0), (.if_icmp .ge 0, 8, 0, 0), (.aload 0, 0, 0, 0), (.iload 1, 0, 0, 0), (.aload 0, 0, 0, 0), (.iload 2, 0, 0, 0), (.invokevirtual 262, 2, 12, 0), (.iload 2, 0, 0, 0), (.invokevirtual 264, 4, 12, 0), (.iinc 2 1, 0, 0, 0), (.goto 0, 7, 0, 0)],
  [(.aload 0, 0, 0, 0), (.getfield 1, 12, 96, 0), (.lreturn, 0, 0, 0)]]
def mk_266 : List (List mI) := [
  [(.sipush 137, 0, 0, 0), (.istore 2, 0, 0, 0), (.sipush 0, 0, 0, 0), (.istore 3, 0, 0, 0)],
  [(.iload 3, 0, 0, 0), (.iload 1, 0, 0, 0), (.if_icmp .ge 0, 2, 0, 0), (.sipush 3, 0, 0, 0), (.iload 2, 0, 0, 0), (.imul, 0, 0, 0), (.aload 0, 0, 0, 0), (.iload 3, 0, 0, 0), (.iaload, 0, 0, 0), (.iadd, 0, 0, 0), (.sipush 251, 0, 0, 0), (.irem, 0, 0, 0), (.istore 2, 0, 0, 0), (.iinc 3 1, 0, 0, 0), (.goto 0, 1, 0, 0)],
  [(.iload 2, 0, 0, 0), (.ireturn, 0, 0, 0)]]
def mk_267 : List (List mI) := [
  [(.aload 0, 0, 0, 0), (.getfield 2, 12, 98, 0), (.aload 0, 0, 0, 0), (.getfield 0, 12, 99, 0), (.iload 1, 0, 0, 0), (.iastore, 0, 0, 0), (.aload 0, 0, 0, 0), (.dup, 0, 0, 0), (.getfield 0, 12, 99, 0), (.sipush 1, 0, 0, 0), (.iadd, 0, 0, 0), (.putfield 0, 12, 99, 0), (.return_, 0, 0, 0)]]
def mk_268 : List (List mI) := [
  [(.aload 0, 0, 0, 0), (.sipush 0, 0, 0, 0), (.putfield 0, 12, 99, 0), (.aload 0, 0, 0, 0), (.aload 0, 0, 0, 0), (.getfield 2, 12, 47, 0), (.sipush 0, 0, 0, 0), (.iaload, 0, 0, 0), (.sipush 256, 0, 0, 0), (.idiv, 0, 0, 0), (.invokevirtual 267, 2, 12, 0), (.aload 0, 0, 0, 0), (.aload 0, 0, 0, 0), (.getfield 2, 12, 47, 0), (.sipush 0, 0, 0, 0), (.iaload, 0, 0, 0), (.sipush 256, 0, 0, 0), (.irem, 0, 0, 0), (.invokevirtual 267, 2, 12, 0), (.sipush 0, 0, 0, 0), (.istore 1, 0, 0, 0)],
  [(.iload 1, 0, 0, 0), (.aload 0, 0, 0, 0), (.invokevirtual 178, 1, 12, 0), (.if_icmp .ge 0, 4, 0, 0), (.aload 0, 0, 0, 0), (.aload 0, 0, 0, 0), (.iload 1, 0, 0, 0), (.invokevirtual 180, 2, 12, 0), (.invokevirtual 267, 2, 12, 0), (.aload 0, 0, 0, 0), (.aload 0, 0, 0, 0), (.getfield 2, 12, 47, 0), (.sipush 2, 0, 0, 0), (.sipush 4, 0, 0, 0), (.iload 1, 0, 0, 0), (.imul, 0, 0, 0), (.iadd, 0, 0, 0), (.iaload, 0, 0, 0), (.sipush 2, 0, 0, 0), (.aload 0, 0, 0, 0), (.getfield 2, 12, 47, 0), (.sipush 3, 0, 0, 0), (.sipush 4, 0, 0, 0), (.iload 1, 0, 0, 0), (.imul, 0, 0, 0), (.iadd, 0, 0, 0), (.iaload, 0, 0, 0), (.imul, 0, 0, 0), (.iadd, 0, 0, 0), (.invokevirtual 267, 2, 12, 0), (.aload 0, 0, 0, 0), (.aload 0, 0, 0, 0), (.iload 1, 0, 0, 0), (.invokevirtual 183, 2, 12, 0), (.ifCond .ge 0, 2, 0, 0), (.sipush 256, 0, 0, 0), (.aload 0, 0, 0, 0), (.iload 1, 0, 0, 0), (.invokevirtual 183, 2, 12, 0), (.iadd, 0, 0, 0), (.goto 0, 3, 0, 0)],
  [(.aload 0, 0, 0, 0), (.iload 1, 0, 0, 0), (.invokevirtual 183, 2, 12, 0)],
  [(.invokevirtual 267, 2, 12, 0), (.iinc 1 1, 0, 0, 0), (.goto 0, 1, 0, 0)],
  [(.aload 0, 0, 0, 0), (.aload 0, 0, 0, 0), (.getfield 2, 12, 98, 0), (.aload 0, 0, 0, 0), (.getfield 0, 12, 99, 0), (.invokestatic 266, 2, 12, 0), (.invokevirtual 267, 2, 12, 0), (.aload 0, 0, 0, 0), (.getfield 0, 12, 99, 0), (.ireturn, 0, 0, 0)]]
def mk_269 : List (List mI) := [
  [(.iload 1, 0, 0, 0), (.ifCond .lt 0, 1, 0, 0), (.iload 1, 0, 0, 0), (.aload 0, 0, 0, 0), (.getfield 0, 12, 99, 0), (.if_icmp .ge 0, 1, 0, 0), (.aload 0, 0, 0, 0), (.getfield 2, 12, 98, 0), (.iload 1, 0, 0, 0), (.iaload, 0, 0, 0), (.goto 0, 2, 0, 0)],
  [(.sipush (-1), 0, 0, 0)],
  [(.ireturn, 0, 0, 0)]]
def mk_270 : List (List mI) := [
  [(.iload 1, 0, 0, 0), (.sipush 3, 0, 0, 0), (.sipush 3, 0, 0, 0), (.aload 0, 0, 0, 0), (.invokevirtual 178, 1, 12, 0), (.imul, 0, 0, 0), (.iadd, 0, 0, 0), (.if_icmp .ne 0, 1, 0, 0), (.aload 0, 0, 0, 0), (.getfield 2, 12, 0, 0), (.iload 1, 0, 0, 0), (.sipush 1, 0, 0, 0), (.isub, 0, 0, 0), (.iaload, 0, 0, 0), (.aload 0, 0, 0, 0), (.getfield 2, 12, 0, 0), (.iload 1, 0, 0, 0), (.sipush 1, 0, 0, 0), (.isub, 0, 0, 0), (.invokestatic 266, 2, 12, 0), (.if_icmp .ne 0, 1, 0, 0), (.sipush 256, 0, 0, 0), (.aload 0, 0, 0, 0), (.getfield 2, 12, 0, 0), (.sipush 0, 0, 0, 0), (.iaload, 0, 0, 0), (.imul, 0, 0, 0), (.aload 0, 0, 0, 0), (.getfield 2, 12, 0, 0), (.sipush 1, 0, 0, 0), (.iaload, 0, 0, 0), (.iadd, 0, 0, 0), (.sipush 999, 0, 0, 0), (.if_icmp .le 0, 2, 0, 0)],
  [(.sipush 0, 0, 0, 0), (.ireturn, 1, 0, 0)],
  [(.sipush 0, 0, 0, 0), (.istore 2, 0, 0, 0)],
  [(.iload 2, 0, 0, 0), (.aload 0, 0, 0, 0), (.invokevirtual 178, 1, 12, 0), (.if_icmp .ge 0, 6, 0, 0), (.sipush 2, 0, 0, 0), (.sipush 3, 0, 0, 0), (.iload 2, 0, 0, 0), (.imul, 0, 0, 0), (.iadd, 0, 0, 0), (.istore 3, 0, 0, 0), (.aload 0, 0, 0, 0), (.getfield 2, 12, 0, 0), (.iload 3, 0, 0, 0), (.iaload, 0, 0, 0), (.sipush 20, 0, 0, 0), (.if_icmp .gt 0, 4, 0, 0), (.aload 0, 0, 0, 0), (.getfield 2, 12, 0, 0), (.iload 3, 0, 0, 0), (.sipush 1, 0, 0, 0), (.iadd, 0, 0, 0), (.iaload, 0, 0, 0), (.sipush 3, 0, 0, 0), (.if_icmp .gt 0, 4, 0, 0), (.aload 0, 0, 0, 0), (.getfield 2, 12, 0, 0), (.iload 3, 0, 0, 0), (.sipush 2, 0, 0, 0), (.iadd, 0, 0, 0), (.iaload, 0, 0, 0), (.sipush 20, 0, 0, 0), (.if_icmp .le 0, 5, 0, 0), (.aload 0, 0, 0, 0), (.getfield 2, 12, 0, 0), (.iload 3, 0, 0, 0), (.sipush 2, 0, 0, 0), (.iadd, 0, 0, 0), (.iaload, 0, 0, 0), (.sipush 254, 0, 0, 0), (.if_icmp .ge 0, 5, 0, 0)],
  [(.sipush 0, 0, 0, 0), (.ireturn, 1, 0, 0)],
  [(.iinc 2 1, 0, 0, 0), (.goto 0, 3, 0, 0)],
  [(.sipush 1, 0, 0, 0), (.ireturn, 1, 0, 0)]]
def mk_271 : List (List mI) := [
  [(.aload 0, 0, 0, 0), (.getfield 0, 12, 1, 0), (.istore 1, 0, 0, 0), (.aload 0, 0, 0, 0), (.sipush 0, 0, 0, 0), (.putfield 0, 12, 1, 0), (.aload 0, 0, 0, 0), (.iload 1, 0, 0, 0), (.invokevirtual 270, 2, 12, 0), (.ifCond .ne 0, 1, 0, 0), (.aload 0, 0, 0, 0), (.getfield 2, 12, 9, 0), (.sipush 5, 0, 0, 0), (.dup2, 0, 0, 0), (.iaload, 0, 0, 0), (.sipush 1, 0, 0, 0), (.iadd, 0, 0, 0), (.iastore, 0, 0, 0), (.sipush 0, 0, 0, 0), (.ireturn, 1, 0, 0)],
  [(.aload 0, 0, 0, 0), (.getfield 2, 12, 47, 0), (.sipush 0, 0, 0, 0), (.sipush 256, 0, 0, 0), (.aload 0, 0, 0, 0), (.getfield 2, 12, 0, 0), (.sipush 0, 0, 0, 0), (.iaload, 0, 0, 0), (.imul, 0, 0, 0), (.aload 0, 0, 0, 0), (.getfield 2, 12, 0, 0), (.sipush 1, 0, 0, 0), (.iaload, 0, 0, 0), (.iadd, 0, 0, 0), (.iastore, 0, 0, 0), (.sipush 0, 0, 0, 0), (.istore 2, 0, 0, 0)],
  [(.iload 2, 0, 0, 0), (.aload 0, 0, 0, 0), (.invokevirtual 178, 1, 12, 0), (.if_icmp .ge 0, 5, 0, 0), (.sipush 2, 0, 0, 0), (.sipush 3, 0, 0, 0), (.iload 2, 0, 0, 0), (.imul, 0, 0, 0), (.iadd, 0, 0, 0), (.istore 3, 0, 0, 0), (.aload 0, 0, 0, 0), (.getfield 2, 12, 47, 0), (.sipush 1, 0, 0, 0), (.sipush 4, 0, 0, 0), (.iload 2, 0, 0, 0), (.imul, 0, 0, 0), (.iadd, 0, 0, 0), (.aload 0, 0, 0, 0), (.getfield 2, 12, 0, 0), (.iload 3, 0, 0, 0), (.iaload, 0, 0, 0), (.iastore, 0, 0, 0), (.aload 0, 0, 0, 0), (.getfield 2, 12, 47, 0), (.sipush 2, 0, 0, 0), (.sipush 4, 0, 0, 0), (.iload 2, 0, 0, 0), (.imul, 0, 0, 0), (.iadd, 0, 0, 0), (.aload 0, 0, 0, 0), (.getfield 2, 12, 0, 0), (.iload 3, 0, 0, 0), (.sipush 1, 0, 0, 0), (.iadd, 0, 0, 0), (.iaload, 0, 0, 0), (.sipush 2, 0, 0, 0), (.irem, 0, 0, 0), (.iastore, 0, 0, 0), (.aload 0, 0, 0, 0), (.getfield 2, 12, 47, 0), (.sipush 3, 0, 0, 0), (.sipush 4, 0, 0, 0), (.iload 2, 0, 0, 0), (.imul, 0, 0, 0), (.iadd, 0, 0, 0), (.aload 0, 0, 0, 0), (.getfield 2, 12, 0, 0), (.iload 3, 0, 0, 0), (.sipush 1, 0, 0, 0), (.iadd, 0, 0, 0), (.iaload, 0, 0, 0), (.sipush 2, 0, 0, 0), (.idiv, 0, 0, 0), (.iastore, 0, 0, 0), (.aload 0, 0, 0, 0), (.getfield 2, 12, 47, 0), (.sipush 4, 0, 0, 0), (.sipush 4, 0, 0, 0), (.iload 2, 0, 0, 0), (.imul, 0, 0, 0), (.iadd, 0, 0, 0), (.aload 0, 0, 0, 0), (.getfield 2, 12, 0, 0), (.iload 3, 0, 0, 0), (.sipush 2, 0, 0, 0), (.iadd, 0, 0, 0), (.iaload, 0, 0, 0), (.sipush 20, 0, 0, 0), (.if_icmp .le 0, 3, 0, 0), (.aload 0, 0, 0, 0), (.getfield 2, 12, 0, 0), (.iload 3, 0, 0, 0), (.sipush 2, 0, 0, 0), (.iadd, 0, 0, 0), (.iaload, 0, 0, 0), (.sipush 256, 0, 0, 0), (.isub, 0, 0, 0), (.goto 0, 4, 0, 0)],
  [(.aload 0, 0, 0, 0), (.getfield 2, 12, 0, 0), (.iload 3, 0, 0, 0), (.sipush 2, 0, 0, 0), (.iadd, 0, 0, 0), (.iaload, 0, 0, 0)],
  [(.iastore, 0, 0, 0), (.iinc 2 1, 0, 0, 0), (.goto 0, 2, 0, 0)],
  [(.aload 0, 0, 0, 0), (.getfield 2, 12, 47, 0), (.sipush 29, 0, 0, 0), (.sipush 0, 0, 0, 0), (.iastore, 0, 0, 0), (.aload 0, 0, 0, 0), (.sipush 0, 0, 0, 0), (.putfield 0, 12, 65, 0), (.sipush 1, 0, 0, 0), (.ireturn, 1, 0, 0)]]
def mk_272 : List (List mI) := [
  [(.iload 1, 0, 0, 0), (.i2l, 0, 0, 0), (.jsr 0, 0, 0, 0), (.jsr 5, 0, 0, 0), (.invokestatic 152, 3, 12, 0), (.ifCond .eq 0, 1, 0, 0), (.aload 0, 0, 0, 0), (.getfield 2, 12, 9, 0), (.iload 1, 0, 0, 0), (.iaload, 0, 0, 0), (.goto 0, 2, 0, 0)],
  [(.sipush (-1), 0, 0, 0)],
  [(.ireturn, 0, 0, 0)]]
def mk_273 : List (List mI) := [
  [(.iload 0, 0, 0, 0), (.iload 0, 0, 0, 0), (.sipush 1, 0, 0, 0), (.iushr, 0, 0, 0), (.sipush 1431655765, 0, 0, 0), (.iand, 0, 0, 0), (.isub, 0, 0, 0), (.istore 0, 0, 0, 0), (.iload 0, 0, 0, 0), (.sipush 858993459, 0, 0, 0), (.iand, 0, 0, 0), (.iload 0, 0, 0, 0), (.sipush 2, 0, 0, 0), (.iushr, 0, 0, 0), (.sipush 858993459, 0, 0, 0), (.iand, 0, 0, 0), (.iadd, 0, 0, 0), (.istore 0, 0, 0, 0), (.iload 0, 0, 0, 0), (.iload 0, 0, 0, 0), (.sipush 4, 0, 0, 0), (.iushr, 0, 0, 0), (.iadd, 0, 0, 0), (.sipush 252645135, 0, 0, 0), (.iand, 0, 0, 0), (.istore 0, 0, 0, 0), (.iload 0, 0, 0, 0), (.iload 0, 0, 0, 0), (.sipush 8, 0, 0, 0), (.iushr, 0, 0, 0), (.iadd, 0, 0, 0), (.istore 0, 0, 0, 0), (.iload 0, 0, 0, 0), (.iload 0, 0, 0, 0), (.sipush 16, 0, 0, 0), (.iushr, 0, 0, 0), (.iadd, 0, 0, 0), (.istore 0, 0, 0, 0), (.iload 0, 0, 0, 0), (.sipush 63, 0, 0, 0), (.iand, 0, 0, 0), (.ireturn, 0, 0, 0)]]
def mk_274 : List (List mI) := [
  [(.iload 0, 0, 0, 0), (.iload 1, 0, 0, 0), (.idiv, 0, 0, 0), (.istore 2, 0, 0, 0), (.iload 0, 0, 0, 0), (.iload 1, 0, 0, 0), (.ixor, 0, 0, 0), (.ifCond .ge 0, 1, 0, 0), (.iload 2, 0, 0, 0), (.iload 1, 0, 0, 0), (.imul, 0, 0, 0), (.iload 0, 0, 0, 0), (.if_icmp .eq 0, 1, 0, 0), (.iload 2, 0, 0, 0), (.sipush 1, 0, 0, 0), (.isub, 0, 0, 0), (.ireturn, 0, 0, 0)],
  [(.iload 2, 0, 0, 0), (.ireturn, 0, 0, 0)]]
def mk_275 : List (List mI) := [
  [(.iload 0, 0, 0, 0), (.iload 1, 0, 0, 0), (.if_icmp .lt 0, 1, 0, 0), (.iload 0, 0, 0, 0), (.goto 0, 2, 0, 0)],
  [(.iload 1, 0, 0, 0)],
  [(.ireturn, 0, 0, 0)]]
def mk_276 : List (List mI) := [
  [(.lload 0, 0, 0, 0), (.lload 2, 0, 0, 0), (.lcmp, 0, 0, 0), (.ifCond .lt 0, 1, 0, 0), (.lload 0, 0, 0, 0), (.goto 0, 2, 0, 0)],
  [(.lload 2, 0, 0, 0)],
  [(.lreturn, 0, 0, 0)]]
def mk_277 : List (List mI) := [
  [(.iload 0, 0, 0, 0), (.iload 1, 0, 0, 0), (.if_icmp .gt 0, 1, 0, 0), (.iload 0, 0, 0, 0), (.goto 0, 2, 0, 0)],
  [(.iload 1, 0, 0, 0)],
  [(.ireturn, 0, 0, 0)]]
def mk_278 : List (List mI) := [
  [(.lload 0, 0, 0, 0), (.lload 2, 0, 0, 0), (.lcmp, 0, 0, 0), (.ifCond .gt 0, 1, 0, 0), (.lload 0, 0, 0, 0), (.goto 0, 2, 0, 0)],
  [(.lload 2, 0, 0, 0)],
  [(.lreturn, 0, 0, 0)]]
def mk_279 : List (List mI) := [
  [(.sipush 0, 0, 0, 0), (.istore 3, 0, 0, 0), (.aload 0, 0, 0, 0), (.arraylength, 0, 0, 0), (.istore 4, 0, 0, 0)],
  [(.iload 3, 0, 0, 0), (.iload 4, 0, 0, 0), (.if_icmp .ge 0, 2, 0, 0), (.aload 0, 0, 0, 0), (.iload 3, 0, 0, 0), (.lload 1, 0, 0, 0), (.lastore, 0, 0, 0), (.iinc 3 1, 0, 0, 0), (.goto 0, 1, 0, 0)],
  [(.return_, 0, 0, 0)]]
def mk_280 : List (List mI) := [
  [(.sipush 0, 0, 0, 0), (.istore 2, 0, 0, 0), (.aload 0, 0, 0, 0), (.arraylength, 0, 0, 0), (.istore 3, 0, 0, 0)],
  [(.iload 2, 0, 0, 0), (.iload 3, 0, 0, 0), (.if_icmp .ge 0, 2, 0, 0), (.aload 0, 0, 0, 0), (.iload 2, 0, 0, 0), (.iload 1, 0, 0, 0), (.iastore, 0, 0, 0), (.iinc 2 1, 0, 0, 0), (.goto 0, 1, 0, 0)],
  [(.return_, 0, 0, 0)]]
def mk_281 : List (List mI) := [
  [(.aload 0, 0, 0, 0), (.getfield 2, 4, 1, 0), (.getfield 2, 0, 3, 0), (.aload 0, 0, 0, 0), (.getfield 0, 4, 5, 0), (.invokevirtual 66, 2, 5, 0), (.sipush 1, 0, 0, 0), (.ireturn, 1, 0, 0)]]
def mk_282 : List (List mI) := [
  [(.new 11, 0, 0, 0), (.dup, 0, 0, 0), (.invokespecial 105, 1, 11, 0), (.astore 1, 0, 0, 0), (.new 12, 0, 0, 0), (.dup, 0, 0, 0), (.invokespecial 151, 1, 12, 0), (.astore 2, 0, 0, 0), (.sipush 0, 0, 0, 0), (.istore 3, 0, 0, 0)],
  [(.iload 3, 0, 0, 0), (.aload 0, 0, 0, 0), (.arraylength, 0, 0, 0), (.sipush 6, 0, 0, 0), (.isub, 0, 0, 0), (.if_icmp .gt 0, 35, 0, 0), (.aload 0, 0, 0, 0), (.iload 3, 0, 0, 0), (.iaload, 0, 0, 0), (.sipush 31, 0, 0, 0), (.iand, 0, 0, 0), (.tableswitch 34 0 31 #[2, 3, 4, 5, 6, 7, 8, 9, 10, 11, 12, 13, 14, 15, 16, 17, 18, 19, 20, 21, 22, 23, 24, 25, 26, 27, 28, 29, 30, 31, 32, 33], 0, 0, 0)],
  [(.aload 1, 0, 0, 0), (.aload 0, 0, 0, 0), (.iload 3, 0, 0, 0), (.sipush 1, 0, 0, 0), (.iadd, 0, 0, 0), (.iaload, 0, 0, 0), (.aload 0, 0, 0, 0), (.iload 3, 0, 0, 0), (.sipush 2, 0, 0, 0), (.iadd, 0, 0, 0), (.iaload, 0, 0, 0), (.aload 0, 0, 0, 0), (.iload 3, 0, 0, 0), (.sipush 3, 0, 0, 0), (.iadd, 0, 0, 0), (.iaload, 0, 0, 0), (.aload 0, 0, 0, 0), (.iload 3, 0, 0, 0), (.sipush 4, 0, 0, 0), (.iadd, 0, 0, 0), (.iaload, 0, 0, 0), (.aload 0, 0, 0, 0), (.iload 3, 0, 0, 0), (.sipush 5, 0, 0, 0), (.iadd, 0, 0, 0), (.iaload, 0, 0, 0), (.invokevirtual 106, 6, 11, 0), (.aload 2, 0, 0, 0), (.aload 0, 0, 0, 0), (.iload 3, 0, 0, 0), (.sipush 1, 0, 0, 0), (.iadd, 0, 0, 0), (.iaload, 0, 0, 0), (.aload 0, 0, 0, 0), (.iload 3, 0, 0, 0), (.sipush 2, 0, 0, 0), (.iadd, 0, 0, 0), (.iaload, 0, 0, 0), (.aload 0, 0, 0, 0), (.iload 3, 0, 0, 0), (.sipush 3, 0, 0, 0), (.iadd, 0, 0, 0), (.iaload, 0, 0, 0), (.aload 0, 0, 0, 0), (.iload 3, 0, 0, 0), (.sipush 4, 0, 0, 0), (.iadd, 0, 0, 0), (.iaload, 0, 0, 0), (.aload 0, 0, 0, 0), (.iload 3, 0, 0, 0), (.sipush 5, 0, 0, 0), (.iadd, 0, 0, 0), (.iaload, 0, 0, 0), (.invokevirtual 153, 6, 12, 0), (.if_icmp .eq 0, 34, 0, 0), (.sipush 0, 0, 0, 0), (.ireturn, 1, 0, 0)],
  [(.aload 1, 0, 0, 0), (.aload 0, 0, 0, 0), (.iload 3, 0, 0, 0), (.sipush 1, 0, 0, 0), (.iadd, 0, 0, 0), (.iaload, 0, 0, 0), (.invokevirtual 107, 2, 11, 0), (.aload 2, 0, 0, 0), (.aload 0, 0, 0, 0), (.iload 3, 0, 0, 0), (.sipush 1, 0, 0, 0), (.iadd, 0, 0, 0), (.iaload, 0, 0, 0), (.invokevirtual 154, 2, 12, 0), (.if_icmp .eq 0, 34, 0, 0), (.sipush 0, 0, 0, 0), (.ireturn, 1, 0, 0)],
  [(.aload 1, 0, 0, 0), (.invokevirtual 108, 1, 11, 0), (.aload 2, 0, 0, 0), (.invokevirtual 175, 1, 12, 0), (.if_icmp .eq 0, 34, 0, 0), (.sipush 0, 0, 0, 0), (.ireturn, 1, 0, 0)],
  [(.aload 1, 0, 0, 0), (.aload 0, 0, 0, 0), (.iload 3, 0, 0, 0), (.sipush 1, 0, 0, 0), (.iadd, 0, 0, 0), (.iaload, 0, 0, 0), (.invokevirtual 109, 2, 11, 0), (.aload 2, 0, 0, 0), (.aload 0, 0, 0, 0), (.iload 3, 0, 0, 0), (.sipush 1, 0, 0, 0), (.iadd, 0, 0, 0), (.iaload, 0, 0, 0), (.invokevirtual 177, 2, 12, 0), (.if_icmp .eq 0, 34, 0, 0), (.sipush 0, 0, 0, 0), (.ireturn, 1, 0, 0)],
  [(.aload 1, 0, 0, 0), (.aload 0, 0, 0, 0), (.iload 3, 0, 0, 0), (.sipush 1, 0, 0, 0), (.iadd, 0, 0, 0), (.iaload, 0, 0, 0), (.invokevirtual 110, 2, 11, 0), (.aload 2, 0, 0, 0), (.aload 0, 0, 0, 0), (.iload 3, 0, 0, 0), (.sipush 1, 0, 0, 0), (.iadd, 0, 0, 0), (.iaload, 0, 0, 0), (.invokevirtual 203, 2, 12, 0), (.if_icmp .eq 0, 34, 0, 0), (.sipush 0, 0, 0, 0), (.ireturn, 1, 0, 0)],
  [(.aload 1, 0, 0, 0), (.aload 0, 0, 0, 0), (.iload 3, 0, 0, 0), (.sipush 1, 0, 0, 0), (.iadd, 0, 0, 0), (.iaload, 0, 0, 0), (.aload 0, 0, 0, 0), (.iload 3, 0, 0, 0), (.sipush 2, 0, 0, 0), (.iadd, 0, 0, 0), (.iaload, 0, 0, 0), (.invokevirtual 111, 3, 11, 0), (.aload 2, 0, 0, 0), (.aload 0, 0, 0, 0), (.iload 3, 0, 0, 0), (.sipush 1, 0, 0, 0), (.iadd, 0, 0, 0), (.iaload, 0, 0, 0), (.aload 0, 0, 0, 0), (.iload 3, 0, 0, 0), (.sipush 2, 0, 0, 0), (.iadd, 0, 0, 0), (.iaload, 0, 0, 0), (.invokevirtual 204, 3, 12, 0), (.if_icmp .eq 0, 34, 0, 0), (.sipush 0, 0, 0, 0), (.ireturn, 1, 0, 0)],
  [(.aload 1, 0, 0, 0), (.aload 0, 0, 0, 0), (.iload 3, 0, 0, 0), (.sipush 1, 0, 0, 0), (.iadd, 0, 0, 0), (.iaload, 0, 0, 0), (.aload 0, 0, 0, 0), (.iload 3, 0, 0, 0), (.sipush 2, 0, 0, 0), (.iadd, 0, 0, 0), (.iaload, 0, 0, 0), (.invokevirtual 112, 3, 11, 0), (.aload 2, 0, 0, 0), (.aload 0, 0, 0, 0), (.iload 3, 0, 0, 0), (.sipush 1, 0, 0, 0), (.iadd, 0, 0, 0), (.iaload, 0, 0, 0), (.aload 0, 0, 0, 0), (.iload 3, 0, 0, 0), (.sipush 2, 0, 0, 0), (.iadd, 0, 0, 0), (.iaload, 0, 0, 0), (.invokevirtual 205, 3, 12, 0), (.if_icmp .eq 0, 34, 0, 0), (.sipush 0, 0, 0, 0), (.ireturn, 1, 0, 0)],
  [(.aload 1, 0, 0, 0), (.aload 0, 0, 0, 0), (.iload 3, 0, 0, 0), (.sipush 1, 0, 0, 0), (.iadd, 0, 0, 0), (.iaload, 0, 0, 0), (.aload 0, 0, 0, 0), (.iload 3, 0, 0, 0), (.sipush 2, 0, 0, 0), (.iadd, 0, 0, 0), (.iaload, 0, 0, 0), (.invokevirtual 113, 3, 11, 0), (.aload 2, 0, 0, 0), (.aload 0, 0, 0, 0), (.iload 3, 0, 0, 0), (.sipush 1, 0, 0, 0), (.iadd, 0, 0, 0), (.iaload, 0, 0, 0), (.aload 0, 0, 0, 0), (.iload 3, 0, 0, 0), (.sipush 2, 0, 0, 0), (.iadd, 0, 0, 0), (.iaload, 0, 0, 0), (.invokevirtual 206, 3, 12, 0), (.if_icmp .eq 0, 34, 0, 0), (.sipush 0, 0, 0, 0), (.ireturn, 1, 0, 0)],
  [(.aload 1, 0, 0, 0), (.aload 0, 0, 0, 0), (.iload 3, 0, 0, 0), (.sipush 1, 0, 0, 0), (.iadd, 0, 0, 0), (.iaload, 0, 0, 0), (.aload 0, 0, 0, 0), (.iload 3, 0, 0, 0), (.sipush 2, 0, 0, 0), (.iadd, 0, 0, 0), (.iaload, 0, 0, 0), (.invokevirtual 114, 3, 11, 0), (.aload 2, 0, 0, 0), (.aload 0, 0, 0, 0), (.iload 3, 0, 0, 0), (.sipush 1, 0, 0, 0), (.iadd, 0, 0, 0), (.iaload, 0, 0, 0), (.aload 0, 0, 0, 0), (.iload 3, 0, 0, 0), (.sipush 2, 0, 0, 0), (.iadd, 0, 0, 0), (.iaload, 0, 0, 0), (.invokevirtual 207, 3, 12, 0), (.if_icmp .eq 0, 34, 0, 0), (.sipush 0, 0, 0, 0), (.ireturn, 1, 0, 0)],
  [(.aload 1, 0, 0, 0), (.aload 0, 0, 0, 0), (.iload 3, 0, 0, 0), (.sipush 1, 0, 0, 0), (.iadd, 0, 0, 0), (.iaload, 0, 0, 0), (.aload 0, 0, 0, 0), (.iload 3, 0, 0, 0), (.sipush 2, 0, 0, 0), (.iadd, 0, 0, 0), (.iaload, 0, 0, 0), (.aload 0, 0, 0, 0), (.iload 3, 0, 0, 0), (.sipush 3, 0, 0, 0), (.iadd, 0, 0, 0), (.iaload, 0, 0, 0), (.invokevirtual 115, 4, 11, 0), (.aload 2, 0, 0, 0), (.aload 0, 0, 0, 0), (.iload 3, 0, 0, 0), (.sipush 1, 0, 0, 0), (.iadd, 0, 0, 0), (.iaload, 0, 0, 0), (.aload 0, 0, 0, 0), (.iload 3, 0, 0, 0), (.sipush 2, 0, 0, 0), (.iadd, 0, 0, 0), (.iaload, 0, 0, 0), (.aload 0, 0, 0, 0), (.iload 3, 0, 0, 0), (.sipush 3, 0, 0, 0), (.iadd, 0, 0, 0), (.iaload, 0, 0, 0), (.invokevirtual 208, 4, 12, 0), (.if_icmp .eq 0, 34, 0, 0), (.sipush 0, 0, 0, 0), (.ireturn, 1, 0, 0)],
  [(.aload 1, 0, 0, 0), (.aload 0, 0, 0, 0), (.iload 3, 0, 0, 0), (.sipush 1, 0, 0, 0), (.iadd, 0, 0, 0), (.iaload, 0, 0, 0), (.invokevirtual 116, 2, 11, 0), (.aload 2, 0, 0, 0), (.aload 0, 0, 0, 0), (.iload 3, 0, 0, 0), (.sipush 1, 0, 0, 0), (.iadd, 0, 0, 0), (.iaload, 0, 0, 0), (.invokevirtual 209, 2, 12, 0), (.if_icmp .eq 0, 34, 0, 0), (.sipush 0, 0, 0, 0), (.ireturn, 1, 0, 0)],
  [(.aload 1, 0, 0, 0), (.aload 0, 0, 0, 0), (.iload 3, 0, 0, 0), (.sipush 1, 0, 0, 0), (.iadd, 0, 0, 0), (.iaload, 0, 0, 0), (.invokevirtual 117, 2, 11, 0), (.aload 2, 0, 0, 0), (.aload 0, 0, 0, 0), (.iload 3, 0, 0, 0), (.sipush 1, 0, 0, 0), (.iadd, 0, 0, 0), (.iaload, 0, 0, 0), (.invokevirtual 211, 2, 12, 0), (.if_icmp .eq 0, 34, 0, 0), (.sipush 0, 0, 0, 0), (.ireturn, 1, 0, 0)],
  [(.aload 1, 0, 0, 0), (.aload 0, 0, 0, 0), (.iload 3, 0, 0, 0), (.sipush 1, 0, 0, 0), (.iadd, 0, 0, 0), (.iaload, 0, 0, 0), (.aload 0, 0, 0, 0), (.iload 3, 0, 0, 0), (.sipush 2, 0, 0, 0), (.iadd, 0, 0, 0), (.iaload, 0, 0, 0), (.aload 0, 0, 0, 0), (.iload 3, 0, 0, 0), (.sipush 3, 0, 0, 0), (.iadd, 0, 0, 0), (.iaload, 0, 0, 0), (.invokevirtual 118, 4, 11, 0), (.aload 2, 0, 0, 0), (.aload 0, 0, 0, 0), (.iload 3, 0, 0, 0), (.sipush 1, 0, 0, 0), (.iadd, 0, 0, 0), (.iaload, 0, 0, 0), (.aload 0, 0, 0, 0), (.iload 3, 0, 0, 0), (.sipush 2, 0, 0, 0), (.iadd, 0, 0, 0), (.iaload, 0, 0, 0), (.aload 0, 0, 0, 0), (.iload 3, 0, 0, 0), (.sipush 3, 0, 0, 0), (.iadd, 0, 0, 0), (.iaload, 0, 0, 0), (.invokevirtual 212, 4, 12, 0), (.if_icmp .eq 0, 34, 0, 0), (.sipush 0, 0, 0, 0), (.ireturn, 1, 0, 0)],
  [(.aload 1, 0, 0, 0), (.aload 0, 0, 0, 0), (.iload 3, 0, 0, 0), (.sipush 1, 0, 0, 0), (.iadd, 0, 0, 0), (.iaload, 0, 0, 0), (.aload 0, 0, 0, 0), (.iload 3, 0, 0, 0), (.sipush 2, 0, 0, 0), (.iadd, 0, 0, 0), (.iaload, 0, 0, 0), (.invokevirtual 119, 3, 11, 0), (.aload 2, 0, 0, 0), (.aload 0, 0, 0, 0), (.iload 3, 0, 0, 0), (.sipush 1, 0, 0, 0), (.iadd, 0, 0, 0), (.iaload, 0, 0, 0), (.aload 0, 0, 0, 0), (.iload 3, 0, 0, 0), (.sipush 2, 0, 0, 0), (.iadd, 0, 0, 0), (.iaload, 0, 0, 0), (.invokevirtual 214, 3, 12, 0), (.if_icmp .eq 0, 34, 0, 0), (.sipush 0, 0, 0, 0), (.ireturn, 1, 0, 0)],
  [(.aload 1, 0, 0, 0), (.aload 0, 0, 0, 0), (.iload 3, 0, 0, 0), (.sipush 1, 0, 0, 0), (.iadd, 0, 0, 0), (.iaload, 0, 0, 0), (.aload 0, 0, 0, 0), (.iload 3, 0, 0, 0), (.sipush 2, 0, 0, 0), (.iadd, 0, 0, 0), (.iaload, 0, 0, 0), (.invokevirtual 120, 3, 11, 0), (.aload 2, 0, 0, 0), (.aload 0, 0, 0, 0), (.iload 3, 0, 0, 0), (.sipush 1, 0, 0, 0), (.iadd, 0, 0, 0), (.iaload, 0, 0, 0), (.aload 0, 0, 0, 0), (.iload 3, 0, 0, 0), (.sipush 2, 0, 0, 0), (.iadd, 0, 0, 0), (.iaload, 0, 0, 0), (.invokevirtual 215, 3, 12, 0), (.if_icmp .eq 0, 34, 0, 0), (.sipush 0, 0, 0, 0), (.ireturn, 1, 0, 0)],
  [(.aload 1, 0, 0, 0), (.aload 0, 0, 0, 0), (.iload 3, 0, 0, 0), (.sipush 1, 0, 0, 0), (.iadd, 0, 0, 0), (.iaload, 0, 0, 0), (.invokevirtual 121, 2, 11, 0), (.aload 2, 0, 0, 0), (.aload 0, 0, 0, 0), (.iload 3, 0, 0, 0), (.sipush 1, 0, 0, 0), (.iadd, 0, 0, 0), (.iaload, 0, 0, 0), (.invokevirtual 218, 2, 12, 0), (.if_icmp .eq 0, 34, 0, 0), (.sipush 0, 0, 0, 0), (.ireturn, 1, 0, 0)],
  [(.aload 1, 0, 0, 0), (.invokevirtual 122, 1, 11, 0), (.aload 2, 0, 0, 0), (.invokevirtual 220, 1, 12, 0), (.if_icmp .eq 0, 34, 0, 0), (.sipush 0, 0, 0, 0), (.ireturn, 1, 0, 0)],
  [(.aload 1, 0, 0, 0), (.aload 0, 0, 0, 0), (.iload 3, 0, 0, 0), (.sipush 1, 0, 0, 0), (.iadd, 0, 0, 0), (.iaload, 0, 0, 0), (.invokevirtual 123, 2, 11, 0), (.aload 2, 0, 0, 0), (.aload 0, 0, 0, 0), (.iload 3, 0, 0, 0), (.sipush 1, 0, 0, 0), (.iadd, 0, 0, 0), (.iaload, 0, 0, 0), (.invokevirtual 223, 2, 12, 0), (.if_icmp .eq 0, 34, 0, 0), (.sipush 0, 0, 0, 0), (.ireturn, 1, 0, 0)],
  [(.aload 1, 0, 0, 0), (.aload 0, 0, 0, 0), (.iload 3, 0, 0, 0), (.sipush 1, 0, 0, 0), (.iadd, 0, 0, 0), (.iaload, 0, 0, 0), (.aload 0, 0, 0, 0), (.iload 3, 0, 0, 0), (.sipush 2, 0, 0, 0), (.iadd, 0, 0, 0), (.iaload, 0, 0, 0), (.invokevirtual 124, 3, 11, 0), (.aload 2, 0, 0, 0), (.aload 0, 0, 0, 0), (.iload 3, 0, 0, 0), (.sipush 1, 0, 0, 0), (.iadd, 0, 0, 0), (.iaload, 0, 0, 0), (.aload 0, 0, 0, 0), (.iload 3, 0, 0, 0), (.sipush 2, 0, 0, 0), (.iadd, 0, 0, 0), (.iaload, 0, 0, 0), (.invokevirtual 225, 3, 12, 0), (.if_icmp .eq 0, 34, 0, 0), (.sipush 0, 0, 0, 0), (.ireturn, 1, 0, 0)],
  [(.aload 1, 0, 0, 0), (.aload 0, 0, 0, 0), (.iload 3, 0, 0, 0), (.sipush 1, 0, 0, 0), (.iadd, 0, 0, 0), (.iaload, 0, 0, 0), (.aload 0, 0, 0, 0), (.iload 3, 0, 0, 0), (.sipush 2, 0, 0, 0), (.iadd, 0, 0, 0), (.iaload, 0, 0, 0), (.invokevirtual 125, 3, 11, 0), (.aload 2, 0, 0, 0), (.aload 0, 0, 0, 0), (.iload 3, 0, 0, 0), (.sipush 1, 0, 0, 0), (.iadd, 0, 0, 0), (.iaload, 0, 0, 0), (.aload 0, 0, 0, 0), (.iload 3, 0, 0, 0), (.sipush 2, 0, 0, 0), (.iadd, 0, 0, 0), (.iaload, 0, 0, 0), (.invokevirtual 229, 3, 12, 0), (.if_icmp .eq 0, 34, 0, 0), (.sipush 0, 0, 0, 0), (.ireturn, 1, 0, 0)],
  [(.aload 1, 0, 0, 0), (.aload 0, 0, 0, 0), (.iload 3, 0, 0, 0), (.sipush 1, 0, 0, 0), (.iadd, 0, 0, 0), (.iaload, 0, 0, 0), (.invokevirtual 126, 2, 11, 0), (.aload 2, 0, 0, 0), (.aload 0, 0, 0, 0), (.iload 3, 0, 0, 0), (.sipush 1, 0, 0, 0), (.iadd, 0, 0, 0), (.iaload, 0, 0, 0), (.invokevirtual 230, 2, 12, 0), (.if_icmp .eq 0, 34, 0, 0), (.sipush 0, 0, 0, 0), (.ireturn, 1, 0, 0)],
  [(.aload 1, 0, 0, 0), (.aload 0, 0, 0, 0), (.iload 3, 0, 0, 0), (.sipush 1, 0, 0, 0), (.iadd, 0, 0, 0), (.iaload, 0, 0, 0), (.aload 0, 0, 0, 0), (.iload 3, 0, 0, 0), (.sipush 2, 0, 0, 0), (.iadd, 0, 0, 0), (.iaload, 0, 0, 0), (.invokevirtual 127, 3, 11, 0), (.aload 2, 0, 0, 0), (.aload 0, 0, 0, 0), (.iload 3, 0, 0, 0), (.sipush 1, 0, 0, 0), (.iadd, 0, 0, 0), (.iaload, 0, 0, 0), (.aload 0, 0, 0, 0), (.iload 3, 0, 0, 0), (.sipush 2, 0, 0, 0), (.iadd, 0, 0, 0), (.iaload, 0, 0, 0), (.invokevirtual 231, 3, 12, 0), (.if_icmp .eq 0, 34, 0, 0), (.sipush 0, 0, 0, 0), (.ireturn, 1, 0, 0)],
  [(.aload 1, 0, 0, 0), (.aload 0, 0, 0, 0), (.iload 3, 0, 0, 0), (.sipush 1, 0, 0, 0), (.iadd, 0, 0, 0), (.iaload, 0, 0, 0), (.aload 0, 0, 0, 0), (.iload 3, 0, 0, 0), (.sipush 2, 0, 0, 0), (.iadd, 0, 0, 0), (.iaload, 0, 0, 0), (.invokevirtual 128, 3, 11, 0), (.aload 2, 0, 0, 0), (.aload 0, 0, 0, 0), (.iload 3, 0, 0, 0), (.sipush 1, 0, 0, 0), (.iadd, 0, 0, 0), (.iaload, 0, 0, 0), (.aload 0, 0, 0, 0), (.iload 3, 0, 0, 0), (.sipush 2, 0, 0, 0), (.iadd, 0, 0, 0), (.iaload, 0, 0, 0), (.invokevirtual 232, 3, 12, 0), (.if_icmp .eq 0, 34, 0, 0), (.sipush 0, 0, 0, 0), (.ireturn, 1, 0, 0)],
  [(.aload 1, 0, 0, 0), (.aload 0, 0, 0, 0), (.iload 3, 0, 0, 0), (.sipush 1, 0, 0, 0), (.iadd, 0, 0, 0), (.iaload, 0, 0, 0), (.invokevirtual 129, 2, 11, 0), (.aload 2, 0, 0, 0), (.aload 0, 0, 0, 0), (.iload 3, 0, 0, 0), (.sipush 1, 0, 0, 0), (.iadd, 0, 0, 0), (.iaload, 0, 0, 0), (.invokevirtual 233, 2, 12, 0), (.if_icmp .eq 0, 34, 0, 0), (.sipush 0, 0, 0, 0), (.ireturn, 1, 0, 0)],
  [(.aload 1, 0, 0, 0), (.aload 0, 0, 0, 0), (.iload 3, 0, 0, 0), (.sipush 1, 0, 0, 0), (.iadd, 0, 0, 0), (.iaload, 0, 0, 0), (.invokevirtual 130, 2, 11, 0), (.aload 2, 0, 0, 0), (.aload 0, 0, 0, 0), (.iload 3, 0, 0, 0), (.sipush 1, 0, 0, 0), (.iadd, 0, 0, 0), (.iaload, 0, 0, 0), (.invokevirtual 236, 2, 12, 0), (.if_icmp .eq 0, 34, 0, 0), (.sipush 0, 0, 0, 0), (.ireturn, 1, 0, 0)],
  [(.aload 1, 0, 0, 0), (.invokevirtual 131, 1, 11, 0), (.aload 2, 0, 0, 0), (.invokevirtual 227, 1, 12, 0), (.if_icmp .eq 0, 34, 0, 0), (.sipush 0, 0, 0, 0), (.ireturn, 1, 0, 0)],
  [(.aload 1, 0, 0, 0), (.aload 0, 0, 0, 0), (.iload 3, 0, 0, 0), (.sipush 1, 0, 0, 0), (.iadd, 0, 0, 0), (.iaload, 0, 0, 0), (.invokevirtual 132, 2, 11, 0), (.aload 2, 0, 0, 0), (.aload 0, 0, 0, 0), (.iload 3, 0, 0, 0), (.sipush 1, 0, 0, 0), (.iadd, 0, 0, 0), (.iaload, 0, 0, 0), (.invokevirtual 234, 2, 12, 0), (.if_icmp .eq 0, 34, 0, 0), (.sipush 0, 0, 0, 0), (.ireturn, 1, 0, 0)],
  [(.aload 1, 0, 0, 0), (.invokevirtual 133, 1, 11, 0), (.aload 2, 0, 0, 0), (.invokevirtual 265, 1, 12, 0), (.lcmp, 0, 0, 0), (.ifCond .eq 0, 34, 0, 0), (.sipush 0, 0, 0, 0), (.ireturn, 1, 0, 0)],
  [(.aload 1, 0, 0, 0), (.invokevirtual 134, 1, 11, 0), (.aload 2, 0, 0, 0), (.invokevirtual 268, 1, 12, 0), (.if_icmp .eq 0, 34, 0, 0), (.sipush 0, 0, 0, 0), (.ireturn, 1, 0, 0)],
  [(.aload 1, 0, 0, 0), (.aload 0, 0, 0, 0), (.iload 3, 0, 0, 0), (.sipush 1, 0, 0, 0), (.iadd, 0, 0, 0), (.iaload, 0, 0, 0), (.invokevirtual 135, 2, 11, 0), (.aload 2, 0, 0, 0), (.aload 0, 0, 0, 0), (.iload 3, 0, 0, 0), (.sipush 1, 0, 0, 0), (.iadd, 0, 0, 0), (.iaload, 0, 0, 0), (.invokevirtual 269, 2, 12, 0), (.if_icmp .eq 0, 34, 0, 0), (.sipush 0, 0, 0, 0), (.ireturn, 1, 0, 0)],
  [(.aload 1, 0, 0, 0), (.invokevirtual 136, 1, 11, 0), (.aload 2, 0, 0, 0), (.invokevirtual 271, 1, 12, 0), (.if_icmp .eq 0, 34, 0, 0), (.sipush 0, 0, 0, 0), (.ireturn, 1, 0, 0)],
  [(.aload 1, 0, 0, 0), (.aload 0, 0, 0, 0), (.iload 3, 0, 0, 0), (.sipush 1, 0, 0, 0), (.iadd, 0, 0, 0), (.iaload, 0, 0, 0), (.invokevirtual 137, 2, 11, 0), (.aload 2, 0, 0, 0), (.aload 0, 0, 0, 0), (.iload 3, 0, 0, 0), (.sipush 1, 0, 0, 0), (.iadd, 0, 0, 0), (.iaload, 0, 0, 0), (.invokevirtual 272, 2, 12, 0), (.if_icmp .eq 0, 34, 0, 0), (.sipush 0, 0, 0, 0), (.ireturn, 1, 0, 0)],
  [(.iinc 3 6, 0, 0, 0), (.goto 0, 1, 0, 0)],
  [(.sipush 1, 0, 0, 0), (.ireturn, 1, 0, 0)]]
def mj_code (y : Nat) : List (List mI) := (bif Nat.blt y 141 then (bif Nat.blt y 70 then (bif Nat.blt y 35 then (bif Nat.blt y 17 then (bif Nat.blt y 8 then (bif Nat.blt y 4 then (bif Nat.blt y 2 then (bif Nat.blt y 1 then mk_0 else mk_1) else (bif Nat.blt y 3 then mk_2 else mk_3)) else (bif Nat.blt y 6 then (bif Nat.blt y 5 then mk_4 else mk_5) else (bif Nat.blt y 7 then mk_6 else mk_7))) else (bif Nat.blt y 12 then (bif Nat.blt y 10 then (bif Nat.blt y 9 then mk_8 else mk_9) else (bif Nat.blt y 11 then mk_10 else mk_11)) else (bif Nat.blt y 14 then (bif Nat.blt y 13 then mk_12 else mk_13) else (bif Nat.blt y 15 then mk_14 else (bif Nat.blt y 16 then mk_15 else mk_16))))) else (bif Nat.blt y 26 then (bif Nat.blt y 21 then (bif Nat.blt y 19 then (bif Nat.blt y 18 then mk_17 else mk_18) else (bif Nat.blt y 20 then mk_19 else mk_20)) else (bif Nat.blt y 23 then (bif Nat.blt y 22 then mk_21 else mk_22) else (bif Nat.blt y 24 then mk_23 else (bif Nat.blt y 25 then mk_24 else mk_25)))) else (bif Nat.blt y 30 then (bif Nat.blt y 28 then (bif Nat.blt y 27 then mk_26 else mk_27) else (bif Nat.blt y 29 then mk_28 else mk_29)) else (bif Nat.blt y 32 then (bif Nat.blt y 31 then mk_30 else mk_31) else (bif Nat.blt y 33 then mk_32 else (bif Nat.blt y 34 then mk_33 else mk_34)))))) else (bif Nat.blt y 52 then (bif Nat.blt y 43 then (bif Nat.blt y 39 then (bif Nat.blt y 37 then (bif Nat.blt y 36 then mk_35 else mk_36) else (bif Nat.blt y 38 then mk_37 else mk_38)) else (bif Nat.blt y 41 then (bif Nat.blt y 40 then mk_39 else mk_40) else (bif Nat.blt y 42 then mk_41 else mk_42))) else (bif Nat.blt y 47 then (bif Nat.blt y 45 then (bif Nat.blt y 44 then mk_43 else mk_44) else (bif Nat.blt y 46 then mk_45 else mk_46)) else (bif Nat.blt y 49 then (bif Nat.blt y 48 then mk_47 else mk_48) else (bif Nat.blt y 50 then mk_49 else (bif Nat.blt y 51 then mk_50 else mk_51))))) else (bif Nat.blt y 61 then (bif Nat.blt y 56 then (bif Nat.blt y 54 then (bif Nat.blt y 53 then mk_52 else mk_53) else (bif Nat.blt y 55 then mk_54 else mk_55)) else (bif Nat.blt y 58 then (bif Nat.blt y 57 then mk_56 else mk_57) else (bif Nat.blt y 59 then mk_58 else (bif Nat.blt y 60 then mk_59 else mk_60)))) else (bif Nat.blt y 65 then (bif Nat.blt y 63 then (bif Nat.blt y 62 then mk_61 else mk_62) else (bif Nat.blt y 64 then mk_63 else mk_64)) else (bif Nat.blt y 67 then (bif Nat.blt y 66 then mk_65 else mk_66) else (bif Nat.blt y 68 then mk_67 else (bif Nat.blt y 69 then mk_68 else mk_69))))))) else (bif Nat.blt y 105 then (bif Nat.blt y 87 then (bif Nat.blt y 78 then (bif Nat.blt y 74 then (bif Nat.blt y 72 then (bif Nat.blt y 71 then mk_70 else mk_71) else (bif Nat.blt y 73 then mk_72 else mk_73)) else (bif Nat.blt y 76 then (bif Nat.blt y 75 then mk_74 else mk_75) else (bif Nat.blt y 77 then mk_76 else mk_77))) else (bif Nat.blt y 82 then (bif Nat.blt y 80 then (bif Nat.blt y 79 then mk_78 else mk_79) else (bif Nat.blt y 81 then mk_80 else mk_81)) else (bif Nat.blt y 84 then (bif Nat.blt y 83 then mk_82 else mk_83) else (bif Nat.blt y 85 then mk_84 else (bif Nat.blt y 86 then mk_85 else mk_86))))) else (bif Nat.blt y 96 then (bif Nat.blt y 91 then (bif Nat.blt y 89 then (bif Nat.blt y 88 then mk_87 else mk_88) else (bif Nat.blt y 90 then mk_89 else mk_90)) else (bif Nat.blt y 93 then (bif Nat.blt y 92 then mk_91 else mk_92) else (bif Nat.blt y 94 then mk_93 else (bif Nat.blt y 95 then mk_94 else mk_95)))) else (bif Nat.blt y 100 then (bif Nat.blt y 98 then (bif Nat.blt y 97 then mk_96 else mk_97) else (bif Nat.blt y 99 then mk_98 else mk_99)) else (bif Nat.blt y 102 then (bif Nat.blt y 101 then mk_100 else mk_101) else (bif Nat.blt y 103 then mk_102 else (bif Nat.blt y 104 then mk_103 else mk_104)))))) else (bif Nat.blt y 123 then (bif Nat.blt y 114 then (bif Nat.blt y 109 then (bif Nat.blt y 107 then (bif Nat.blt y 106 then mk_105 else mk_106) else (bif Nat.blt y 108 then mk_107 else mk_108)) else (bif Nat.blt y 111 then (bif Nat.blt y 110 then mk_109 else mk_110) else (bif Nat.blt y 112 then mk_111 else (bif Nat.blt y 113 then mk_112 else mk_113)))) else (bif Nat.blt y 118 then (bif Nat.blt y 116 then (bif Nat.blt y 115 then mk_114 else mk_115) else (bif Nat.blt y 117 then mk_116 else mk_117)) else (bif Nat.blt y 120 then (bif Nat.blt y 119 then mk_118 else mk_119) else (bif Nat.blt y 121 then mk_120 else (bif Nat.blt y 122 then mk_121 else mk_122))))) else (bif Nat.blt y 132 then (bif Nat.blt y 127 then (bif Nat.blt y 125 then (bif Nat.blt y 124 then mk_123 else mk_124) else (bif Nat.blt y 126 then mk_125 else mk_126)) else (bif Nat.blt y 129 then (bif Nat.blt y 128 then mk_127 else mk_128) else (bif Nat.blt y 130 then mk_129 else (bif Nat.blt y 131 then mk_130 else mk_131)))) else (bif Nat.blt y 136 then (bif Nat.blt y 134 then (bif Nat.blt y 133 then mk_132 else mk_133) else (bif Nat.blt y 135 then mk_134 else mk_135)) else (bif Nat.blt y 138 then (bif Nat.blt y 137 then mk_136 else mk_137) else (bif Nat.blt y 139 then mk_138 else (bif Nat.blt y 140 then mk_139 else mk_140)))))))) else (bif Nat.blt y 212 then (bif Nat.blt y 176 then (bif Nat.blt y 158 then (bif Nat.blt y 149 then (bif Nat.blt y 145 then (bif Nat.blt y 143 then (bif Nat.blt y 142 then mk_141 else mk_142) else (bif Nat.blt y 144 then mk_143 else mk_144)) else (bif Nat.blt y 147 then (bif Nat.blt y 146 then mk_145 else mk_146) else (bif Nat.blt y 148 then mk_147 else mk_148))) else (bif Nat.blt y 153 then (bif Nat.blt y 151 then (bif Nat.blt y 150 then mk_149 else mk_150) else (bif Nat.blt y 152 then mk_151 else mk_152)) else (bif Nat.blt y 155 then (bif Nat.blt y 154 then mk_153 else mk_154) else (bif Nat.blt y 156 then mk_155 else (bif Nat.blt y 157 then mk_156 else mk_157))))) else (bif Nat.blt y 167 then (bif Nat.blt y 162 then (bif Nat.blt y 160 then (bif Nat.blt y 159 then mk_158 else mk_159) else (bif Nat.blt y 161 then mk_160 else mk_161)) else (bif Nat.blt y 164 then (bif Nat.blt y 163 then mk_162 else mk_163) else (bif Nat.blt y 165 then mk_164 else (bif Nat.blt y 166 then mk_165 else mk_166)))) else (bif Nat.blt y 171 then (bif Nat.blt y 169 then (bif Nat.blt y 168 then mk_167 else mk_168) else (bif Nat.blt y 170 then mk_169 else mk_170)) else (bif Nat.blt y 173 then (bif Nat.blt y 172 then mk_171 else mk_172) else (bif Nat.blt y 174 then mk_173 else (bif Nat.blt y 175 then mk_174 else mk_175)))))) else (bif Nat.blt y 194 then (bif Nat.blt y 185 then (bif Nat.blt y 180 then (bif Nat.blt y 178 then (bif Nat.blt y 177 then mk_176 else mk_177) else (bif Nat.blt y 179 then mk_178 else mk_179)) else (bif Nat.blt y 182 then (bif Nat.blt y 181 then mk_180 else mk_181) else (bif Nat.blt y 183 then mk_182 else (bif Nat.blt y 184 then mk_183 else mk_184)))) else (bif Nat.blt y 189 then (bif Nat.blt y 187 then (bif Nat.blt y 186 then mk_185 else mk_186) else (bif Nat.blt y 188 then mk_187 else mk_188)) else (bif Nat.blt y 191 then (bif Nat.blt y 190 then mk_189 else mk_190) else (bif Nat.blt y 192 then mk_191 else (bif Nat.blt y 193 then mk_192 else mk_193))))) else (bif Nat.blt y 203 then (bif Nat.blt y 198 then (bif Nat.blt y 196 then (bif Nat.blt y 195 then mk_194 else mk_195) else (bif Nat.blt y 197 then mk_196 else mk_197)) else (bif Nat.blt y 200 then (bif Nat.blt y 199 then mk_198 else mk_199) else (bif Nat.blt y 201 then mk_200 else (bif Nat.blt y 202 then mk_201 else mk_202)))) else (bif Nat.blt y 207 then (bif Nat.blt y 205 then (bif Nat.blt y 204 then mk_203 else mk_204) else (bif Nat.blt y 206 then mk_205 else mk_206)) else (bif Nat.blt y 209 then (bif Nat.blt y 208 then mk_207 else mk_208) else (bif Nat.blt y 210 then mk_209 else (bif Nat.blt y 211 then mk_210 else mk_211))))))) else (bif Nat.blt y 247 then (bif Nat.blt y 229 then (bif Nat.blt y 220 then (bif Nat.blt y 216 then (bif Nat.blt y 214 then (bif Nat.blt y 213 then mk_212 else mk_213) else (bif Nat.blt y 215 then mk_214 else mk_215)) else (bif Nat.blt y 218 then (bif Nat.blt y 217 then mk_216 else mk_217) else (bif Nat.blt y 219 then mk_218 else mk_219))) else (bif Nat.blt y 224 then (bif Nat.blt y 222 then (bif Nat.blt y 221 then mk_220 else mk_221) else (bif Nat.blt y 223 then mk_222 else mk_223)) else (bif Nat.blt y 226 then (bif Nat.blt y 225 then mk_224 else mk_225) else (bif Nat.blt y 227 then mk_226 else (bif Nat.blt y 228 then mk_227 else mk_228))))) else (bif Nat.blt y 238 then (bif Nat.blt y 233 then (bif Nat.blt y 231 then (bif Nat.blt y 230 then mk_229 else mk_230) else (bif Nat.blt y 232 then mk_231 else mk_232)) else (bif Nat.blt y 235 then (bif Nat.blt y 234 then mk_233 else mk_234) else (bif Nat.blt y 236 then mk_235 else (bif Nat.blt y 237 then mk_236 else mk_237)))) else (bif Nat.blt y 242 then (bif Nat.blt y 240 then (bif Nat.blt y 239 then mk_238 else mk_239) else (bif Nat.blt y 241 then mk_240 else mk_241)) else (bif Nat.blt y 244 then (bif Nat.blt y 243 then mk_242 else mk_243) else (bif Nat.blt y 245 then mk_244 else (bif Nat.blt y 246 then mk_245 else mk_246)))))) else (bif Nat.blt y 265 then (bif Nat.blt y 256 then (bif Nat.blt y 251 then (bif Nat.blt y 249 then (bif Nat.blt y 248 then mk_247 else mk_248) else (bif Nat.blt y 250 then mk_249 else mk_250)) else (bif Nat.blt y 253 then (bif Nat.blt y 252 then mk_251 else mk_252) else (bif Nat.blt y 254 then mk_253 else (bif Nat.blt y 255 then mk_254 else mk_255)))) else (bif Nat.blt y 260 then (bif Nat.blt y 258 then (bif Nat.blt y 257 then mk_256 else mk_257) else (bif Nat.blt y 259 then mk_258 else mk_259)) else (bif Nat.blt y 262 then (bif Nat.blt y 261 then mk_260 else mk_261) else (bif Nat.blt y 263 then mk_262 else (bif Nat.blt y 264 then mk_263 else mk_264))))) else (bif Nat.blt y 274 then (bif Nat.blt y 269 then (bif Nat.blt y 267 then (bif Nat.blt y 266 then mk_265 else mk_266) else (bif Nat.blt y 268 then mk_267 else mk_268)) else (bif Nat.blt y 271 then (bif Nat.blt y 270 then mk_269 else mk_270) else (bif Nat.blt y 272 then mk_271 else (bif Nat.blt y 273 then mk_272 else mk_273)))) else (bif Nat.blt y 278 then (bif Nat.blt y 276 then (bif Nat.blt y 275 then mk_274 else mk_275) else (bif Nat.blt y 277 then mk_276 else mk_277)) else (bif Nat.blt y 280 then (bif Nat.blt y 279 then mk_278 else mk_279) else (bif Nat.blt y 281 then mk_280 else (bif Nat.blt y 282 then mk_281 else mk_282)))))))))
def mj_pcs (y : Nat) : List Nat := (bif Nat.blt y 141 then (bif Nat.blt y 70 then (bif Nat.blt y 35 then (bif Nat.blt y 17 then (bif Nat.blt y 8 then (bif Nat.blt y 4 then (bif Nat.blt y 2 then (bif Nat.blt y 1 then [0] else [0]) else (bif Nat.blt y 3 then [0] else [0, 16, 17])) else (bif Nat.blt y 6 then (bif Nat.blt y 5 then [0, 2, 22, 28] else [0, 39]) else (bif Nat.blt y 7 then [0, 50] else [0]))) else (bif Nat.blt y 12 then (bif Nat.blt y 10 then (bif Nat.blt y 9 then [0, 34, 72] else [0]) else (bif Nat.blt y 11 then [0, 9] else [0])) else (bif Nat.blt y 14 then (bif Nat.blt y 13 then [0, 34] else [0, 12, 14, 40, 50, 62, 72]) else (bif Nat.blt y 15 then [0] else (bif Nat.blt y 16 then [0] else [0, 29, 30]))))) else (bif Nat.blt y 26 then (bif Nat.blt y 21 then (bif Nat.blt y 19 then (bif Nat.blt y 18 then [0, 13, 47] else [0, 30, 56, 85]) else (bif Nat.blt y 20 then [0, 15, 61, 67] else [0, 14, 49, 88, 100, 101, 139, 151, 157])) else (bif Nat.blt y 23 then (bif Nat.blt y 22 then [0, 17, 18] else [0, 15, 24, 69, 75, 81]) else (bif Nat.blt y 24 then [0, 27, 77, 83] else (bif Nat.blt y 25 then [0, 16, 36, 65, 78, 98, 104, 122] else [0, 12, 25, 57, 63, 69])))) else (bif Nat.blt y 30 then (bif Nat.blt y 28 then (bif Nat.blt y 27 then [0, 8, 76, 82] else [0, 14, 35, 69, 74, 111]) else (bif Nat.blt y 29 then [0, 25, 30, 55, 61] else [0, 24, 48, 77])) else (bif Nat.blt y 32 then (bif Nat.blt y 31 then [0, 32, 42, 73, 87, 93] else [0, 11, 53, 112, 118]) else (bif Nat.blt y 33 then [0, 4, 32] else (bif Nat.blt y 34 then [0] else [0, 13, 38, 54, 56, 62, 87])))))) else (bif Nat.blt y 52 then (bif Nat.blt y 43 then (bif Nat.blt y 39 then (bif Nat.blt y 37 then (bif Nat.blt y 36 then [0, 26, 27, 57, 108, 116, 118, 154, 158, 159] else [0, 27, 31, 32]) else (bif Nat.blt y 38 then [0, 27, 31, 32] else [0])) else (bif Nat.blt y 41 then (bif Nat.blt y 40 then [0] else [0, 21, 22, 76, 81, 86, 91, 96, 123, 124, 125, 152, 153, 154, 181, 182, 183, 188, 193]) else (bif Nat.blt y 42 then [0, 25, 43, 68, 93, 95] else [0, 25, 45, 77]))) else (bif Nat.blt y 47 then (bif Nat.blt y 45 then (bif Nat.blt y 44 then [0, 26] else [0, 26]) else (bif Nat.blt y 46 then [0, 27] else [0, 19])) else (bif Nat.blt y 49 then (bif Nat.blt y 48 then [0, 19] else [0, 11, 34, 49]) else (bif Nat.blt y 50 then [0, 26, 27, 43, 58, 88] else (bif Nat.blt y 51 then [0, 24] else [0, 24]))))) else (bif Nat.blt y 61 then (bif Nat.blt y 56 then (bif Nat.blt y 54 then (bif Nat.blt y 53 then [0, 24, 50, 72, 85] else [0, 10, 12, 48, 67]) else (bif Nat.blt y 55 then [0, 10, 12, 48, 67] else [0, 30, 32, 47, 90, 91, 92, 125, 135, 158, 175])) else (bif Nat.blt y 58 then (bif Nat.blt y 57 then [0, 10, 12, 43, 60, 62, 80, 98] else [0, 10, 12, 43, 60, 62, 80, 98]) else (bif Nat.blt y 59 then [0, 23, 50, 93, 94, 95, 115, 135, 172, 174, 189, 212] else (bif Nat.blt y 60 then [0, 32, 59, 61, 80, 82] else [0, 19])))) else (bif Nat.blt y 65 then (bif Nat.blt y 63 then (bif Nat.blt y 62 then [0, 15, 30, 47, 48] else [0, 21, 22, 96, 98, 100, 102, 104, 106, 119, 120, 121, 134, 135, 136, 149, 150, 151, 164, 165, 166]) else (bif Nat.blt y 64 then [0] else [0])) else (bif Nat.blt y 67 then (bif Nat.blt y 66 then [0] else [0]) else (bif Nat.blt y 68 then [0, 19, 20] else (bif Nat.blt y 69 then [0, 36] else [0, 24]))))))) else (bif Nat.blt y 105 then (bif Nat.blt y 87 then (bif Nat.blt y 78 then (bif Nat.blt y 74 then (bif Nat.blt y 72 then (bif Nat.blt y 71 then [0] else [0]) else (bif Nat.blt y 73 then [0, 29, 31, 33, 77, 79, 85] else [0])) else (bif Nat.blt y 76 then (bif Nat.blt y 75 then [0, 4, 31] else [0, 2, 52, 58]) else (bif Nat.blt y 77 then [0] else [0]))) else (bif Nat.blt y 82 then (bif Nat.blt y 80 then (bif Nat.blt y 79 then [0] else [0, 4, 33]) else (bif Nat.blt y 81 then [0] else [0, 3, 45, 51])) else (bif Nat.blt y 84 then (bif Nat.blt y 83 then [0] else [0]) else (bif Nat.blt y 85 then [0, 15, 61, 94, 95, 118, 174, 193, 209, 233] else (bif Nat.blt y 86 then [0] else [0, 20, 21]))))) else (bif Nat.blt y 96 then (bif Nat.blt y 91 then (bif Nat.blt y 89 then (bif Nat.blt y 88 then [0, 28, 29] else [0, 4, 55]) else (bif Nat.blt y 90 then [0, 16, 20, 21] else [0, 12, 32, 71, 98, 100, 106])) else (bif Nat.blt y 93 then (bif Nat.blt y 92 then [0, 7, 49] else [0, 12, 14, 28, 44, 45]) else (bif Nat.blt y 94 then [0] else (bif Nat.blt y 95 then [0, 4, 34, 40] else [0, 11, 34, 36, 87, 103, 104, 105, 130, 131, 152, 158, 165, 167, 207])))) else (bif Nat.blt y 100 then (bif Nat.blt y 98 then (bif Nat.blt y 97 then [0, 4, 27, 54, 74] else [0, 36, 37]) else (bif Nat.blt y 99 then [0] else [0, 30, 31, 46, 48, 53, 103, 109])) else (bif Nat.blt y 102 then (bif Nat.blt y 101 then [0, 11, 74, 83, 90, 130, 178, 199, 200, 206, 220, 221] else [0, 48, 55, 62, 69, 74, 79, 86, 88, 97]) else (bif Nat.blt y 103 then [0, 33, 34, 35, 43, 44] else (bif Nat.blt y 104 then [0, 36, 45, 54, 63, 71, 77, 81, 91, 98] else [0, 32, 41, 42, 43, 52, 53, 54, 63, 64, 65, 69])))))) else (bif Nat.blt y 123 then (bif Nat.blt y 114 then (bif Nat.blt y 109 then (bif Nat.blt y 107 then (bif Nat.blt y 106 then [0] else [0, 22]) else (bif Nat.blt y 108 then [0, 15, 21] else [0, 27])) else (bif Nat.blt y 111 then (bif Nat.blt y 110 then [0, 12, 27, 28] else [0, 56, 64, 72, 80, 92, 103, 114, 129, 137, 145, 153]) else (bif Nat.blt y 112 then [0, 21, 23] else (bif Nat.blt y 113 then [0, 13, 48, 58, 70, 82, 92, 115, 116, 117] else [0, 13, 56, 66, 79, 89, 99])))) else (bif Nat.blt y 118 then (bif Nat.blt y 116 then (bif Nat.blt y 115 then [0] else [0, 36, 38, 60, 77, 78]) else (bif Nat.blt y 117 then [0, 22, 23] else [0, 22, 23])) else (bif Nat.blt y 120 then (bif Nat.blt y 119 then [0, 33, 35, 58, 65] else [0, 24, 26]) else (bif Nat.blt y 121 then [0, 22, 24, 36, 37] else (bif Nat.blt y 122 then [0, 24, 25] else [0, 34, 56, 61]))))) else (bif Nat.blt y 132 then (bif Nat.blt y 127 then (bif Nat.blt y 125 then (bif Nat.blt y 124 then [0, 22, 23] else [0, 20, 22, 52, 59]) else (bif Nat.blt y 126 then [0, 10, 16] else [0])) else (bif Nat.blt y 129 then (bif Nat.blt y 128 then [0, 22] else [0, 22]) else (bif Nat.blt y 130 then [0, 19, 38, 56] else (bif Nat.blt y 131 then [0, 19, 38, 53, 64] else [0, 26, 30, 31])))) else (bif Nat.blt y 136 then (bif Nat.blt y 134 then (bif Nat.blt y 133 then [0, 10] else [0, 24, 52, 56]) else (bif Nat.blt y 135 then [0, 37, 122] else [0, 21, 22])) else (bif Nat.blt y 138 then (bif Nat.blt y 137 then [0, 13, 33, 37, 38] else [0, 19, 20]) else (bif Nat.blt y 139 then [0] else (bif Nat.blt y 140 then [0] else [0, 24, 30])))))))) else (bif Nat.blt y 212 then (bif Nat.blt y 176 then (bif Nat.blt y 158 then (bif Nat.blt y 149 then (bif Nat.blt y 145 then (bif Nat.blt y 143 then (bif Nat.blt y 142 then [0, 20, 33, 34] else [0, 13, 63, 69]) else (bif Nat.blt y 144 then [0, 26, 28] else [0, 38, 39])) else (bif Nat.blt y 147 then (bif Nat.blt y 146 then [0, 9, 55, 56, 63, 69, 84, 101, 103] else [0, 10, 61, 67, 78, 85, 93, 107, 124, 127]) else (bif Nat.blt y 148 then [0, 48, 50, 52, 98, 100, 122, 128, 161, 162] else [0, 48, 163]))) else (bif Nat.blt y 153 then (bif Nat.blt y 151 then (bif Nat.blt y 150 then [0, 6, 35] else [0]) else (bif Nat.blt y 152 then [0] else [0, 17, 18])) else (bif Nat.blt y 155 then (bif Nat.blt y 154 then [0, 25, 28, 45, 56, 67, 79, 81, 124] else [0, 12, 24]) else (bif Nat.blt y 156 then [0, 8] else (bif Nat.blt y 157 then [0, 16, 17] else [0, 16, 17]))))) else (bif Nat.blt y 167 then (bif Nat.blt y 162 then (bif Nat.blt y 160 then (bif Nat.blt y 159 then [0, 39, 52, 75, 76] else [0, 28, 30, 35, 61, 74, 76, 101, 107]) else (bif Nat.blt y 161 then [0, 10] else [0, 24])) else (bif Nat.blt y 164 then (bif Nat.blt y 163 then [0, 15, 17] else [0, 24]) else (bif Nat.blt y 165 then [0, 9, 30, 41, 49, 96, 129, 156] else (bif Nat.blt y 166 then [0, 66, 70, 71, 142, 146, 147, 218, 222, 223, 294, 298, 299] else [0, 9, 37, 48, 58, 109, 145])))) else (bif Nat.blt y 171 then (bif Nat.blt y 169 then (bif Nat.blt y 168 then [0, 20, 22, 25, 29, 30] else [0, 2, 25, 31]) else (bif Nat.blt y 170 then [0, 32, 43, 44] else [0, 24, 32, 62, 87])) else (bif Nat.blt y 173 then (bif Nat.blt y 172 then [0, 24, 32, 68, 77, 85] else [0, 35, 54]) else (bif Nat.blt y 174 then [0, 23, 31, 41, 42, 77, 89, 128] else (bif Nat.blt y 175 then [0, 21, 40, 59, 78, 97, 117, 137, 157, 184, 205] else [0, 45, 70, 72, 91, 93, 111, 126, 148, 183])))))) else (bif Nat.blt y 194 then (bif Nat.blt y 185 then (bif Nat.blt y 180 then (bif Nat.blt y 178 then (bif Nat.blt y 177 then [0, 2, 41, 43, 85, 87, 126, 128, 158, 160, 180, 182, 265] else [0, 11, 23, 24]) else (bif Nat.blt y 179 then [0] else [0])) else (bif Nat.blt y 182 then (bif Nat.blt y 181 then [0] else [0, 18, 19]) else (bif Nat.blt y 183 then [0, 18, 19] else (bif Nat.blt y 184 then [0] else [0, 21, 22])))) else (bif Nat.blt y 189 then (bif Nat.blt y 187 then (bif Nat.blt y 186 then [0, 5, 36, 58, 68, 75, 81, 94, 95] else [0, 18, 19]) else (bif Nat.blt y 188 then [0, 4, 23, 29] else [0, 10, 11, 28, 74, 98, 104, 110])) else (bif Nat.blt y 191 then (bif Nat.blt y 190 then [0, 10, 23, 25] else [0, 12, 27, 45, 54]) else (bif Nat.blt y 192 then [0, 19, 28] else (bif Nat.blt y 193 then [0, 2, 55, 63, 69, 76] else [0, 6, 38, 47, 54]))))) else (bif Nat.blt y 203 then (bif Nat.blt y 198 then (bif Nat.blt y 196 then (bif Nat.blt y 195 then [0, 8, 23, 50, 53, 64] else [0, 6, 72, 97, 112, 127, 133]) else (bif Nat.blt y 197 then [0, 2, 17] else [0, 7, 31])) else (bif Nat.blt y 200 then (bif Nat.blt y 199 then [0, 2, 26] else [0]) else (bif Nat.blt y 201 then [0, 30, 31] else (bif Nat.blt y 202 then [0, 4, 20] else [0, 4, 33])))) else (bif Nat.blt y 207 then (bif Nat.blt y 205 then (bif Nat.blt y 204 then [0, 56, 65, 72, 77, 83, 89, 95, 103, 108, 113] else [0, 21, 23, 39, 60, 68, 74, 92]) else (bif Nat.blt y 206 then [0, 11, 48, 61, 71, 83, 84, 85] else [0, 11, 48, 55, 62, 69, 76])) else (bif Nat.blt y 209 then (bif Nat.blt y 208 then [0, 47, 48] else [0, 30, 32, 53, 57]) else (bif Nat.blt y 210 then [0, 11, 17, 53, 71, 72] else (bif Nat.blt y 211 then [0, 51, 52] else [0, 11, 15, 36, 42]))))))) else (bif Nat.blt y 247 then (bif Nat.blt y 229 then (bif Nat.blt y 220 then (bif Nat.blt y 216 then (bif Nat.blt y 214 then (bif Nat.blt y 213 then [0, 30, 32, 48, 124, 136, 142, 155, 157] else [0, 5, 31, 32, 39]) else (bif Nat.blt y 215 then [0, 20, 22, 29, 54, 60, 70, 119, 122, 154, 160, 173, 179] else [0, 21, 23, 57, 61])) else (bif Nat.blt y 218 then (bif Nat.blt y 217 then [0, 6, 18, 47, 54, 84, 94] else [0, 2, 41, 47]) else (bif Nat.blt y 219 then [0, 13, 22, 48, 58, 64] else [0]))) else (bif Nat.blt y 224 then (bif Nat.blt y 222 then (bif Nat.blt y 221 then [0, 32, 33, 36, 89, 90, 97, 107, 109, 132] else [0, 2, 61, 63, 69]) else (bif Nat.blt y 223 then [0, 11, 33, 57, 58, 86, 111, 117] else [0, 11, 20, 41, 47])) else (bif Nat.blt y 226 then (bif Nat.blt y 225 then [0, 4, 23, 25, 43, 86, 92] else [0, 19, 21, 34, 76, 83, 89, 98, 106, 108]) else (bif Nat.blt y 227 then [0, 15, 49, 68] else (bif Nat.blt y 228 then [0, 19, 21, 55] else [0, 30, 42]))))) else (bif Nat.blt y 238 then (bif Nat.blt y 233 then (bif Nat.blt y 231 then (bif Nat.blt y 230 then [0] else [0]) else (bif Nat.blt y 232 then [0] else [0])) else (bif Nat.blt y 235 then (bif Nat.blt y 234 then [0, 17] else [0, 16]) else (bif Nat.blt y 236 then [0] else (bif Nat.blt y 237 then [0, 17, 25, 82, 92] else [0])))) else (bif Nat.blt y 242 then (bif Nat.blt y 240 then (bif Nat.blt y 239 then [0, 8, 24] else [0, 26, 27]) else (bif Nat.blt y 241 then [0] else [0, 16, 17])) else (bif Nat.blt y 244 then (bif Nat.blt y 243 then [0, 7, 33, 50, 51] else [0, 35]) else (bif Nat.blt y 245 then [0, 13, 26, 39, 52, 65, 78, 92, 106, 120, 134] else (bif Nat.blt y 246 then [0, 27, 28] else [0, 52, 63, 74, 85, 96, 107, 118, 129, 140, 151, 159])))))) else (bif Nat.blt y 265 then (bif Nat.blt y 256 then (bif Nat.blt y 251 then (bif Nat.blt y 249 then (bif Nat.blt y 248 then [0, 51] else [0, 2, 56, 78, 101, 117, 118, 137, 139, 144, 153, 181, 183, 186, 194, 212, 225, 237]) else (bif Nat.blt y 250 then [0, 43, 110, 112, 115, 122, 140, 160, 161, 162, 178, 185, 207, 225, 245, 246, 247, 279, 286, 308, 326, 341, 362, 386] else [0, 15, 48, 49, 53, 78])) else (bif Nat.blt y 253 then (bif Nat.blt y 252 then [0, 18, 30, 63, 89, 100, 102] else [0, 2, 23, 29]) else (bif Nat.blt y 254 then [0, 33] else (bif Nat.blt y 255 then [0, 2, 47, 79, 105, 106, 110, 131] else [0, 33, 49, 76, 87, 103, 126, 137, 155, 162, 185, 208])))) else (bif Nat.blt y 260 then (bif Nat.blt y 258 then (bif Nat.blt y 257 then [0, 14, 28, 29] else [0, 8, 31, 32, 42, 43, 53, 55]) else (bif Nat.blt y 259 then [0] else [0, 92, 106, 120, 134, 147, 160, 161, 167, 180, 181, 187, 199, 200, 206, 218, 219, 225, 237, 238, 244, 255, 269, 270, 273])) else (bif Nat.blt y 262 then (bif Nat.blt y 261 then [0, 48, 55, 63, 71, 79, 85, 93, 96, 108, 109, 110, 122, 123] else [0, 12, 35, 36]) else (bif Nat.blt y 263 then [0, 7, 42, 85, 110, 124, 157, 162, 168] else (bif Nat.blt y 264 then [0, 15, 30, 45, 60, 75, 76, 90] else [0, 15, 16, 38, 48, 55, 75, 90, 119, 128, 133]))))) else (bif Nat.blt y 274 then (bif Nat.blt y 269 then (bif Nat.blt y 267 then (bif Nat.blt y 266 then [0, 82, 93, 117, 144, 156, 157, 176, 201] else [0, 6, 29]) else (bif Nat.blt y 268 then [0] else [0, 35, 100, 105, 114])) else (bif Nat.blt y 271 then (bif Nat.blt y 270 then [0, 21, 22] else [0, 56, 58, 60, 124, 126, 132]) else (bif Nat.blt y 272 then [0, 30, 55, 162, 170, 177] else (bif Nat.blt y 273 then [0, 21, 22] else [0])))) else (bif Nat.blt y 278 then (bif Nat.blt y 276 then (bif Nat.blt y 275 then [0, 21] else [0, 9, 10]) else (bif Nat.blt y 277 then [0, 10, 11] else [0, 9, 10])) else (bif Nat.blt y 280 then (bif Nat.blt y 279 then [0, 10, 11] else [0, 6, 22]) else (bif Nat.blt y 281 then [0, 5, 20] else (bif Nat.blt y 282 then [0] else [0, 18, 176, 239, 262, 275, 298, 321, 354, 387, 420, 453, 496, 519, 542, 585, 618, 651, 674, 687, 710, 743, 776, 799, 832, 865, 888, 911, 924, 947, 961, 974, 997, 1010, 1033, 1039])))))))))
def mj_o (y : Nat) : Nat := (bif Nat.blt y 141 then (bif Nat.blt y 70 then (bif Nat.blt y 35 then (bif Nat.blt y 17 then (bif Nat.blt y 8 then (bif Nat.blt y 4 then (bif Nat.blt y 2 then (bif Nat.blt y 1 then 0 else 0) else (bif Nat.blt y 3 then 0 else 0)) else (bif Nat.blt y 6 then (bif Nat.blt y 5 then 0 else 0) else (bif Nat.blt y 7 then 0 else 0))) else (bif Nat.blt y 12 then (bif Nat.blt y 10 then (bif Nat.blt y 9 then 1 else 1) else (bif Nat.blt y 11 then 1 else 2)) else (bif Nat.blt y 14 then (bif Nat.blt y 13 then 2 else 2) else (bif Nat.blt y 15 then 2 else (bif Nat.blt y 16 then 3 else 3))))) else (bif Nat.blt y 26 then (bif Nat.blt y 21 then (bif Nat.blt y 19 then (bif Nat.blt y 18 then 3 else 3) else (bif Nat.blt y 20 then 3 else 3)) else (bif Nat.blt y 23 then (bif Nat.blt y 22 then 3 else 3) else (bif Nat.blt y 24 then 3 else (bif Nat.blt y 25 then 3 else 3)))) else (bif Nat.blt y 30 then (bif Nat.blt y 28 then (bif Nat.blt y 27 then 3 else 3) else (bif Nat.blt y 29 then 3 else 3)) else (bif Nat.blt y 32 then (bif Nat.blt y 31 then 3 else 3) else (bif Nat.blt y 33 then 3 else (bif Nat.blt y 34 then 4 else 4)))))) else (bif Nat.blt y 52 then (bif Nat.blt y 43 then (bif Nat.blt y 39 then (bif Nat.blt y 37 then (bif Nat.blt y 36 then 4 else 4) else (bif Nat.blt y 38 then 4 else 4)) else (bif Nat.blt y 41 then (bif Nat.blt y 40 then 4 else 4) else (bif Nat.blt y 42 then 4 else 4))) else (bif Nat.blt y 47 then (bif Nat.blt y 45 then (bif Nat.blt y 44 then 4 else 4) else (bif Nat.blt y 46 then 4 else 4)) else (bif Nat.blt y 49 then (bif Nat.blt y 48 then 4 else 4) else (bif Nat.blt y 50 then 4 else (bif Nat.blt y 51 then 4 else 4))))) else (bif Nat.blt y 61 then (bif Nat.blt y 56 then (bif Nat.blt y 54 then (bif Nat.blt y 53 then 4 else 4) else (bif Nat.blt y 55 then 4 else 4)) else (bif Nat.blt y 58 then (bif Nat.blt y 57 then 4 else 4) else (bif Nat.blt y 59 then 4 else (bif Nat.blt y 60 then 4 else 4)))) else (bif Nat.blt y 65 then (bif Nat.blt y 63 then (bif Nat.blt y 62 then 4 else 4) else (bif Nat.blt y 64 then 5 else 5)) else (bif Nat.blt y 67 then (bif Nat.blt y 66 then 5 else 5) else (bif Nat.blt y 68 then 5 else (bif Nat.blt y 69 then 5 else 5))))))) else (bif Nat.blt y 105 then (bif Nat.blt y 87 then (bif Nat.blt y 78 then (bif Nat.blt y 74 then (bif Nat.blt y 72 then (bif Nat.blt y 71 then 5 else 6) else (bif Nat.blt y 73 then 6 else 6)) else (bif Nat.blt y 76 then (bif Nat.blt y 75 then 6 else 6) else (bif Nat.blt y 77 then 7 else 7))) else (bif Nat.blt y 82 then (bif Nat.blt y 80 then (bif Nat.blt y 79 then 7 else 7) else (bif Nat.blt y 81 then 8 else 8)) else (bif Nat.blt y 84 then (bif Nat.blt y 83 then 9 else 9) else (bif Nat.blt y 85 then 9 else (bif Nat.blt y 86 then 9 else 9))))) else (bif Nat.blt y 96 then (bif Nat.blt y 91 then (bif Nat.blt y 89 then (bif Nat.blt y 88 then 9 else 9) else (bif Nat.blt y 90 then 9 else 9)) else (bif Nat.blt y 93 then (bif Nat.blt y 92 then 9 else 9) else (bif Nat.blt y 94 then 10 else (bif Nat.blt y 95 then 10 else 10)))) else (bif Nat.blt y 100 then (bif Nat.blt y 98 then (bif Nat.blt y 97 then 10 else 10) else (bif Nat.blt y 99 then 10 else 10)) else (bif Nat.blt y 102 then (bif Nat.blt y 101 then 10 else 10) else (bif Nat.blt y 103 then 10 else (bif Nat.blt y 104 then 10 else 10)))))) else (bif Nat.blt y 123 then (bif Nat.blt y 114 then (bif Nat.blt y 109 then (bif Nat.blt y 107 then (bif Nat.blt y 106 then 11 else 11) else (bif Nat.blt y 108 then 11 else 11)) else (bif Nat.blt y 111 then (bif Nat.blt y 110 then 11 else 11) else (bif Nat.blt y 112 then 11 else (bif Nat.blt y 113 then 11 else 11)))) else (bif Nat.blt y 118 then (bif Nat.blt y 116 then (bif Nat.blt y 115 then 11 else 11) else (bif Nat.blt y 117 then 11 else 11)) else (bif Nat.blt y 120 then (bif Nat.blt y 119 then 11 else 11) else (bif Nat.blt y 121 then 11 else (bif Nat.blt y 122 then 11 else 11))))) else (bif Nat.blt y 132 then (bif Nat.blt y 127 then (bif Nat.blt y 125 then (bif Nat.blt y 124 then 11 else 11) else (bif Nat.blt y 126 then 11 else 11)) else (bif Nat.blt y 129 then (bif Nat.blt y 128 then 11 else 11) else (bif Nat.blt y 130 then 11 else (bif Nat.blt y 131 then 11 else 11)))) else (bif Nat.blt y 136 then (bif Nat.blt y 134 then (bif Nat.blt y 133 then 11 else 11) else (bif Nat.blt y 135 then 11 else 11)) else (bif Nat.blt y 138 then (bif Nat.blt y 137 then 11 else 11) else (bif Nat.blt y 139 then 11 else (bif Nat.blt y 140 then 11 else 11)))))))) else (bif Nat.blt y 212 then (bif Nat.blt y 176 then (bif Nat.blt y 158 then (bif Nat.blt y 149 then (bif Nat.blt y 145 then (bif Nat.blt y 143 then (bif Nat.blt y 142 then 11 else 11) else (bif Nat.blt y 144 then 11 else 11)) else (bif Nat.blt y 147 then (bif Nat.blt y 146 then 11 else 11) else (bif Nat.blt y 148 then 11 else 11))) else (bif Nat.blt y 153 then (bif Nat.blt y 151 then (bif Nat.blt y 150 then 11 else 11) else (bif Nat.blt y 152 then 12 else 12)) else (bif Nat.blt y 155 then (bif Nat.blt y 154 then 12 else 12) else (bif Nat.blt y 156 then 12 else (bif Nat.blt y 157 then 12 else 12))))) else (bif Nat.blt y 167 then (bif Nat.blt y 162 then (bif Nat.blt y 160 then (bif Nat.blt y 159 then 12 else 12) else (bif Nat.blt y 161 then 12 else 12)) else (bif Nat.blt y 164 then (bif Nat.blt y 163 then 12 else 12) else (bif Nat.blt y 165 then 12 else (bif Nat.blt y 166 then 12 else 12)))) else (bif Nat.blt y 171 then (bif Nat.blt y 169 then (bif Nat.blt y 168 then 12 else 12) else (bif Nat.blt y 170 then 12 else 12)) else (bif Nat.blt y 173 then (bif Nat.blt y 172 then 12 else 12) else (bif Nat.blt y 174 then 12 else (bif Nat.blt y 175 then 12 else 12)))))) else (bif Nat.blt y 194 then (bif Nat.blt y 185 then (bif Nat.blt y 180 then (bif Nat.blt y 178 then (bif Nat.blt y 177 then 12 else 12) else (bif Nat.blt y 179 then 12 else 12)) else (bif Nat.blt y 182 then (bif Nat.blt y 181 then 12 else 12) else (bif Nat.blt y 183 then 12 else (bif Nat.blt y 184 then 12 else 12)))) else (bif Nat.blt y 189 then (bif Nat.blt y 187 then (bif Nat.blt y 186 then 12 else 12) else (bif Nat.blt y 188 then 12 else 12)) else (bif Nat.blt y 191 then (bif Nat.blt y 190 then 12 else 12) else (bif Nat.blt y 192 then 12 else (bif Nat.blt y 193 then 12 else 12))))) else (bif Nat.blt y 203 then (bif Nat.blt y 198 then (bif Nat.blt y 196 then (bif Nat.blt y 195 then 12 else 12) else (bif Nat.blt y 197 then 12 else 12)) else (bif Nat.blt y 200 then (bif Nat.blt y 199 then 12 else 12) else (bif Nat.blt y 201 then 12 else (bif Nat.blt y 202 then 12 else 12)))) else (bif Nat.blt y 207 then (bif Nat.blt y 205 then (bif Nat.blt y 204 then 12 else 12) else (bif Nat.blt y 206 then 12 else 12)) else (bif Nat.blt y 209 then (bif Nat.blt y 208 then 12 else 12) else (bif Nat.blt y 210 then 12 else (bif Nat.blt y 211 then 12 else 12))))))) else (bif Nat.blt y 247 then (bif Nat.blt y 229 then (bif Nat.blt y 220 then (bif Nat.blt y 216 then (bif Nat.blt y 214 then (bif Nat.blt y 213 then 12 else 12) else (bif Nat.blt y 215 then 12 else 12)) else (bif Nat.blt y 218 then (bif Nat.blt y 217 then 12 else 12) else (bif Nat.blt y 219 then 12 else 12))) else (bif Nat.blt y 224 then (bif Nat.blt y 222 then (bif Nat.blt y 221 then 12 else 12) else (bif Nat.blt y 223 then 12 else 12)) else (bif Nat.blt y 226 then (bif Nat.blt y 225 then 12 else 12) else (bif Nat.blt y 227 then 12 else (bif Nat.blt y 228 then 12 else 12))))) else (bif Nat.blt y 238 then (bif Nat.blt y 233 then (bif Nat.blt y 231 then (bif Nat.blt y 230 then 12 else 12) else (bif Nat.blt y 232 then 12 else 12)) else (bif Nat.blt y 235 then (bif Nat.blt y 234 then 12 else 12) else (bif Nat.blt y 236 then 12 else (bif Nat.blt y 237 then 12 else 12)))) else (bif Nat.blt y 242 then (bif Nat.blt y 240 then (bif Nat.blt y 239 then 12 else 12) else (bif Nat.blt y 241 then 12 else 12)) else (bif Nat.blt y 244 then (bif Nat.blt y 243 then 12 else 12) else (bif Nat.blt y 245 then 12 else (bif Nat.blt y 246 then 12 else 12)))))) else (bif Nat.blt y 265 then (bif Nat.blt y 256 then (bif Nat.blt y 251 then (bif Nat.blt y 249 then (bif Nat.blt y 248 then 12 else 12) else (bif Nat.blt y 250 then 12 else 12)) else (bif Nat.blt y 253 then (bif Nat.blt y 252 then 12 else 12) else (bif Nat.blt y 254 then 12 else (bif Nat.blt y 255 then 12 else 12)))) else (bif Nat.blt y 260 then (bif Nat.blt y 258 then (bif Nat.blt y 257 then 12 else 12) else (bif Nat.blt y 259 then 12 else 12)) else (bif Nat.blt y 262 then (bif Nat.blt y 261 then 12 else 12) else (bif Nat.blt y 263 then 12 else (bif Nat.blt y 264 then 12 else 12))))) else (bif Nat.blt y 274 then (bif Nat.blt y 269 then (bif Nat.blt y 267 then (bif Nat.blt y 266 then 12 else 12) else (bif Nat.blt y 268 then 12 else 12)) else (bif Nat.blt y 271 then (bif Nat.blt y 270 then 12 else 12) else (bif Nat.blt y 272 then 12 else (bif Nat.blt y 273 then 12 else 14)))) else (bif Nat.blt y 278 then (bif Nat.blt y 276 then (bif Nat.blt y 275 then 15 else 15) else (bif Nat.blt y 277 then 15 else 15)) else (bif Nat.blt y 280 then (bif Nat.blt y 279 then 15 else 16) else (bif Nat.blt y 281 then 16 else (bif Nat.blt y 282 then 4 else 13)))))))))
def mj_ini (y : Nat) : Bool := Nat.beq (mj_kd y) 2
