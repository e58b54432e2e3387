section
-- ===== PART A: goes FIRST, ahead of the names: the tables' words, and 'selects' of the private methods out of them =====
/-- a private method of a class that the tables say can be made, by its rows of tables_1 -/
def lw_okq (q : MethodName × Nat) : Prop := (q.1.cls ≠ "java/lang/invoke/MethodHandle" ∧ q.1.cls ≠ "java/lang/invoke/VarHandle") ∧ Cond.instantiable q.1.cls q.2 ∈ tables_1 ∧ Cond.privateMethod q.1 ∈ tables_1 ∧ Cond.instanceMethod q.1 ∈ tables_1
theorem lw_p0 : lw_okq (⟨"TabletCommits", "maySweep", "(I)Z"⟩, 6) := ⟨⟨by decide +kernel, by decide +kernel⟩, List.mem_of_getElem? (i := 18) (by decide +kernel), List.mem_of_getElem? (i := 217) (by decide +kernel), List.mem_of_getElem? (i := 218) (by decide +kernel)⟩
theorem lw_p1 : lw_okq (⟨"TabletCommits", "writeSweep", "(II)Z"⟩, 6) := ⟨⟨by decide +kernel, by decide +kernel⟩, List.mem_of_getElem? (i := 18) (by decide +kernel), List.mem_of_getElem? (i := 225) (by decide +kernel), List.mem_of_getElem? (i := 226) (by decide +kernel)⟩
theorem lw_p2 : lw_okq (⟨"TabletCommits$Cell", "removeBehind", "(LTabletCommits$Version;LTabletCommits$Version;)V"⟩, 4) := ⟨⟨by decide +kernel, by decide +kernel⟩, List.mem_of_getElem? (i := 77) (by decide +kernel), List.mem_of_getElem? (i := 237) (by decide +kernel), List.mem_of_getElem? (i := 238) (by decide +kernel)⟩
theorem lw_p3 : lw_okq (⟨"TabletCommits", "isLoose", "(LTabletCommits$Lock;)Z"⟩, 6) := ⟨⟨by decide +kernel, by decide +kernel⟩, List.mem_of_getElem? (i := 18) (by decide +kernel), List.mem_of_getElem? (i := 259) (by decide +kernel), List.mem_of_getElem? (i := 260) (by decide +kernel)⟩
theorem lw_p4 : lw_okq (⟨"java/lang/Throwable", "fillInStackTrace", "(I)Ljava/lang/Throwable;"⟩, 6) := ⟨⟨by decide +kernel, by decide +kernel⟩, List.mem_of_getElem? (i := 343) (by decide +kernel), List.mem_of_getElem? (i := 341) (by decide +kernel), List.mem_of_getElem? (i := 342) (by decide +kernel)⟩
theorem lw_p5 : lw_okq (⟨"TabletCommits", "readingTransaction", "(II)LTabletCommits$Transaction;"⟩, 6) := ⟨⟨by decide +kernel, by decide +kernel⟩, List.mem_of_getElem? (i := 18) (by decide +kernel), List.mem_of_getElem? (i := 406) (by decide +kernel), List.mem_of_getElem? (i := 407) (by decide +kernel)⟩
theorem lw_p6 : lw_okq (⟨"TabletCommits", "clearUp", "(LTabletCommits$Cell;)I"⟩, 6) := ⟨⟨by decide +kernel, by decide +kernel⟩, List.mem_of_getElem? (i := 18) (by decide +kernel), List.mem_of_getElem? (i := 457) (by decide +kernel), List.mem_of_getElem? (i := 458) (by decide +kernel)⟩
theorem lw_p7 : lw_okq (⟨"TabletCommits$Cell", "keep", "(LTabletCommits$Version;)V"⟩, 4) := ⟨⟨by decide +kernel, by decide +kernel⟩, List.mem_of_getElem? (i := 77) (by decide +kernel), List.mem_of_getElem? (i := 499) (by decide +kernel), List.mem_of_getElem? (i := 500) (by decide +kernel)⟩
theorem lw_p8 : lw_okq (⟨"TabletCommits", "advance", "(LTabletCommits$Transaction;)I"⟩, 6) := ⟨⟨by decide +kernel, by decide +kernel⟩, List.mem_of_getElem? (i := 18) (by decide +kernel), List.mem_of_getElem? (i := 550) (by decide +kernel), List.mem_of_getElem? (i := 551) (by decide +kernel)⟩
theorem lw_p9 : lw_okq (⟨"TabletCommits", "prewrite", "(LTabletCommits$Transaction;)I"⟩, 6) := ⟨⟨by decide +kernel, by decide +kernel⟩, List.mem_of_getElem? (i := 18) (by decide +kernel), List.mem_of_getElem? (i := 554) (by decide +kernel), List.mem_of_getElem? (i := 555) (by decide +kernel)⟩
theorem lw_p10 : lw_okq (⟨"TabletCommits", "takeLock", "(LTabletCommits$Transaction;I)I"⟩, 6) := ⟨⟨by decide +kernel, by decide +kernel⟩, List.mem_of_getElem? (i := 18) (by decide +kernel), List.mem_of_getElem? (i := 561) (by decide +kernel), List.mem_of_getElem? (i := 562) (by decide +kernel)⟩
theorem lw_p11 : lw_okq (⟨"TabletCommits", "follow", "(LTabletCommits$Transaction;)I"⟩, 6) := ⟨⟨by decide +kernel, by decide +kernel⟩, List.mem_of_getElem? (i := 18) (by decide +kernel), List.mem_of_getElem? (i := 617) (by decide +kernel), List.mem_of_getElem? (i := 618) (by decide +kernel)⟩
theorem lw_p12 : lw_okq (⟨"TabletCommits", "decide", "(LTabletCommits$Transaction;)I"⟩, 6) := ⟨⟨by decide +kernel, by decide +kernel⟩, List.mem_of_getElem? (i := 18) (by decide +kernel), List.mem_of_getElem? (i := 626) (by decide +kernel), List.mem_of_getElem? (i := 627) (by decide +kernel)⟩
theorem lw_p13 : lw_okq (⟨"TabletCommitsModel", "isClient", "(I)Z"⟩, 31) := ⟨⟨by decide +kernel, by decide +kernel⟩, List.mem_of_getElem? (i := 639) (by decide +kernel), List.mem_of_getElem? (i := 748) (by decide +kernel), List.mem_of_getElem? (i := 749) (by decide +kernel)⟩
theorem lw_p14 : lw_okq (⟨"TabletCommitsModel", "fails", "(I)I"⟩, 31) := ⟨⟨by decide +kernel, by decide +kernel⟩, List.mem_of_getElem? (i := 639) (by decide +kernel), List.mem_of_getElem? (i := 755) (by decide +kernel), List.mem_of_getElem? (i := 756) (by decide +kernel)⟩
theorem lw_p15 : lw_okq (⟨"TabletCommitsModel", "handOut", "()I"⟩, 31) := ⟨⟨by decide +kernel, by decide +kernel⟩, List.mem_of_getElem? (i := 639) (by decide +kernel), List.mem_of_getElem? (i := 759) (by decide +kernel), List.mem_of_getElem? (i := 760) (by decide +kernel)⟩
def lw_privs_1 : List (MethodName × Nat) := [(⟨"TabletCommits", "maySweep", "(I)Z"⟩, 6), (⟨"TabletCommits", "writeSweep", "(II)Z"⟩, 6), (⟨"TabletCommits$Cell", "removeBehind", "(LTabletCommits$Version;LTabletCommits$Version;)V"⟩, 4), (⟨"TabletCommits", "isLoose", "(LTabletCommits$Lock;)Z"⟩, 6), (⟨"java/lang/Throwable", "fillInStackTrace", "(I)Ljava/lang/Throwable;"⟩, 6), (⟨"TabletCommits", "readingTransaction", "(II)LTabletCommits$Transaction;"⟩, 6), (⟨"TabletCommits", "clearUp", "(LTabletCommits$Cell;)I"⟩, 6), (⟨"TabletCommits$Cell", "keep", "(LTabletCommits$Version;)V"⟩, 4), (⟨"TabletCommits", "advance", "(LTabletCommits$Transaction;)I"⟩, 6), (⟨"TabletCommits", "prewrite", "(LTabletCommits$Transaction;)I"⟩, 6), (⟨"TabletCommits", "takeLock", "(LTabletCommits$Transaction;I)I"⟩, 6), (⟨"TabletCommits", "follow", "(LTabletCommits$Transaction;)I"⟩, 6), (⟨"TabletCommits", "decide", "(LTabletCommits$Transaction;)I"⟩, 6), (⟨"TabletCommitsModel", "isClient", "(I)Z"⟩, 31), (⟨"TabletCommitsModel", "fails", "(I)I"⟩, 31), (⟨"TabletCommitsModel", "handOut", "()I"⟩, 31)]
theorem lw_r1 : ∀ q ∈ lw_privs_1, lw_okq q := List.forall_mem_cons.mpr ⟨lw_p0, List.forall_mem_cons.mpr ⟨lw_p1, List.forall_mem_cons.mpr ⟨lw_p2, List.forall_mem_cons.mpr ⟨lw_p3, List.forall_mem_cons.mpr ⟨lw_p4, List.forall_mem_cons.mpr ⟨lw_p5, List.forall_mem_cons.mpr ⟨lw_p6, List.forall_mem_cons.mpr ⟨lw_p7, List.forall_mem_cons.mpr ⟨lw_p8, List.forall_mem_cons.mpr ⟨lw_p9, List.forall_mem_cons.mpr ⟨lw_p10, List.forall_mem_cons.mpr ⟨lw_p11, List.forall_mem_cons.mpr ⟨lw_p12, List.forall_mem_cons.mpr ⟨lw_p13, List.forall_mem_cons.mpr ⟨lw_p14, List.forall_mem_cons.mpr ⟨lw_p15, fun _ h => absurd h List.not_mem_nil⟩⟩⟩⟩⟩⟩⟩⟩⟩⟩⟩⟩⟩⟩⟩⟩
theorem lw_p16 : lw_okq (⟨"TabletCommitsModel", "clearing", "(I)I"⟩, 31) := ⟨⟨by decide +kernel, by decide +kernel⟩, List.mem_of_getElem? (i := 639) (by decide +kernel), List.mem_of_getElem? (i := 770) (by decide +kernel), List.mem_of_getElem? (i := 771) (by decide +kernel)⟩
theorem lw_p17 : lw_okq (⟨"TabletCommitsModel", "decision", "(II)I"⟩, 31) := ⟨⟨by decide +kernel, by decide +kernel⟩, List.mem_of_getElem? (i := 639) (by decide +kernel), List.mem_of_getElem? (i := 774) (by decide +kernel), List.mem_of_getElem? (i := 775) (by decide +kernel)⟩
theorem lw_p18 : lw_okq (⟨"TabletCommitsModel", "done", "(II)Z"⟩, 31) := ⟨⟨by decide +kernel, by decide +kernel⟩, List.mem_of_getElem? (i := 639) (by decide +kernel), List.mem_of_getElem? (i := 778) (by decide +kernel), List.mem_of_getElem? (i := 779) (by decide +kernel)⟩
theorem lw_p19 : lw_okq (⟨"TabletCommitsModel", "entry", "(I)Z"⟩, 31) := ⟨⟨by decide +kernel, by decide +kernel⟩, List.mem_of_getElem? (i := 639) (by decide +kernel), List.mem_of_getElem? (i := 782) (by decide +kernel), List.mem_of_getElem? (i := 783) (by decide +kernel)⟩
theorem lw_p20 : lw_okq (⟨"TabletCommitsModel", "put", "(IIIII)V"⟩, 31) := ⟨⟨by decide +kernel, by decide +kernel⟩, List.mem_of_getElem? (i := 639) (by decide +kernel), List.mem_of_getElem? (i := 786) (by decide +kernel), List.mem_of_getElem? (i := 787) (by decide +kernel)⟩
theorem lw_p21 : lw_okq (⟨"TabletCommitsModel", "loose", "(I)Z"⟩, 31) := ⟨⟨by decide +kernel, by decide +kernel⟩, List.mem_of_getElem? (i := 639) (by decide +kernel), List.mem_of_getElem? (i := 790) (by decide +kernel), List.mem_of_getElem? (i := 791) (by decide +kernel)⟩
theorem lw_p22 : lw_okq (⟨"TabletCommitsModel", "voids", "(II)Z"⟩, 31) := ⟨⟨by decide +kernel, by decide +kernel⟩, List.mem_of_getElem? (i := 639) (by decide +kernel), List.mem_of_getElem? (i := 794) (by decide +kernel), List.mem_of_getElem? (i := 795) (by decide +kernel)⟩
theorem lw_p23 : lw_okq (⟨"TabletCommitsModel", "latest", "(II)I"⟩, 31) := ⟨⟨by decide +kernel, by decide +kernel⟩, List.mem_of_getElem? (i := 639) (by decide +kernel), List.mem_of_getElem? (i := 798) (by decide +kernel), List.mem_of_getElem? (i := 799) (by decide +kernel)⟩
theorem lw_p24 : lw_okq (⟨"TabletCommitsModel", "change", "(IIII)V"⟩, 31) := ⟨⟨by decide +kernel, by decide +kernel⟩, List.mem_of_getElem? (i := 639) (by decide +kernel), List.mem_of_getElem? (i := 806) (by decide +kernel), List.mem_of_getElem? (i := 807) (by decide +kernel)⟩
theorem lw_p25 : lw_okq (⟨"TabletCommitsModel", "first", "(I)I"⟩, 31) := ⟨⟨by decide +kernel, by decide +kernel⟩, List.mem_of_getElem? (i := 639) (by decide +kernel), List.mem_of_getElem? (i := 818) (by decide +kernel), List.mem_of_getElem? (i := 819) (by decide +kernel)⟩
theorem lw_p26 : lw_okq (⟨"TabletCommitsModel", "ends", "(II)I"⟩, 31) := ⟨⟨by decide +kernel, by decide +kernel⟩, List.mem_of_getElem? (i := 639) (by decide +kernel), List.mem_of_getElem? (i := 822) (by decide +kernel), List.mem_of_getElem? (i := 823) (by decide +kernel)⟩
theorem lw_p27 : lw_okq (⟨"TabletCommitsModel", "nextCell", "(IZ)I"⟩, 31) := ⟨⟨by decide +kernel, by decide +kernel⟩, List.mem_of_getElem? (i := 639) (by decide +kernel), List.mem_of_getElem? (i := 826) (by decide +kernel), List.mem_of_getElem? (i := 827) (by decide +kernel)⟩
theorem lw_p28 : lw_okq (⟨"TabletCommitsModel", "prewrite", "(II)I"⟩, 31) := ⟨⟨by decide +kernel, by decide +kernel⟩, List.mem_of_getElem? (i := 639) (by decide +kernel), List.mem_of_getElem? (i := 830) (by decide +kernel), List.mem_of_getElem? (i := 831) (by decide +kernel)⟩
theorem lw_p29 : lw_okq (⟨"TabletCommitsModel", "overtaken", "(II)Z"⟩, 31) := ⟨⟨by decide +kernel, by decide +kernel⟩, List.mem_of_getElem? (i := 639) (by decide +kernel), List.mem_of_getElem? (i := 834) (by decide +kernel), List.mem_of_getElem? (i := 835) (by decide +kernel)⟩
theorem lw_p30 : lw_okq (⟨"TabletCommitsModel", "locks", "(III)Z"⟩, 31) := ⟨⟨by decide +kernel, by decide +kernel⟩, List.mem_of_getElem? (i := 639) (by decide +kernel), List.mem_of_getElem? (i := 838) (by decide +kernel), List.mem_of_getElem? (i := 839) (by decide +kernel)⟩
theorem lw_p31 : lw_okq (⟨"TabletCommitsModel", "follow", "(I)I"⟩, 31) := ⟨⟨by decide +kernel, by decide +kernel⟩, List.mem_of_getElem? (i := 639) (by decide +kernel), List.mem_of_getElem? (i := 842) (by decide +kernel), List.mem_of_getElem? (i := 843) (by decide +kernel)⟩
def lw_privs_2 : List (MethodName × Nat) := [(⟨"TabletCommitsModel", "clearing", "(I)I"⟩, 31), (⟨"TabletCommitsModel", "decision", "(II)I"⟩, 31), (⟨"TabletCommitsModel", "done", "(II)Z"⟩, 31), (⟨"TabletCommitsModel", "entry", "(I)Z"⟩, 31), (⟨"TabletCommitsModel", "put", "(IIIII)V"⟩, 31), (⟨"TabletCommitsModel", "loose", "(I)Z"⟩, 31), (⟨"TabletCommitsModel", "voids", "(II)Z"⟩, 31), (⟨"TabletCommitsModel", "latest", "(II)I"⟩, 31), (⟨"TabletCommitsModel", "change", "(IIII)V"⟩, 31), (⟨"TabletCommitsModel", "first", "(I)I"⟩, 31), (⟨"TabletCommitsModel", "ends", "(II)I"⟩, 31), (⟨"TabletCommitsModel", "nextCell", "(IZ)I"⟩, 31), (⟨"TabletCommitsModel", "prewrite", "(II)I"⟩, 31), (⟨"TabletCommitsModel", "overtaken", "(II)Z"⟩, 31), (⟨"TabletCommitsModel", "locks", "(III)Z"⟩, 31), (⟨"TabletCommitsModel", "follow", "(I)I"⟩, 31)]
theorem lw_r2 : ∀ q ∈ lw_privs_2, lw_okq q := List.forall_mem_cons.mpr ⟨lw_p16, List.forall_mem_cons.mpr ⟨lw_p17, List.forall_mem_cons.mpr ⟨lw_p18, List.forall_mem_cons.mpr ⟨lw_p19, List.forall_mem_cons.mpr ⟨lw_p20, List.forall_mem_cons.mpr ⟨lw_p21, List.forall_mem_cons.mpr ⟨lw_p22, List.forall_mem_cons.mpr ⟨lw_p23, List.forall_mem_cons.mpr ⟨lw_p24, List.forall_mem_cons.mpr ⟨lw_p25, List.forall_mem_cons.mpr ⟨lw_p26, List.forall_mem_cons.mpr ⟨lw_p27, List.forall_mem_cons.mpr ⟨lw_p28, List.forall_mem_cons.mpr ⟨lw_p29, List.forall_mem_cons.mpr ⟨lw_p30, List.forall_mem_cons.mpr ⟨lw_p31, fun _ h => absurd h List.not_mem_nil⟩⟩⟩⟩⟩⟩⟩⟩⟩⟩⟩⟩⟩⟩⟩⟩
theorem lw_p32 : lw_okq (⟨"TabletCommitsModel", "decide", "(I)I"⟩, 31) := ⟨⟨by decide +kernel, by decide +kernel⟩, List.mem_of_getElem? (i := 639) (by decide +kernel), List.mem_of_getElem? (i := 846) (by decide +kernel), List.mem_of_getElem? (i := 847) (by decide +kernel)⟩
theorem lw_p33 : lw_okq (⟨"TabletCommitsModel", "sweepTablet", "(II)V"⟩, 31) := ⟨⟨by decide +kernel, by decide +kernel⟩, List.mem_of_getElem? (i := 639) (by decide +kernel), List.mem_of_getElem? (i := 882) (by decide +kernel), List.mem_of_getElem? (i := 883) (by decide +kernel)⟩
def lw_privs_3 : List (MethodName × Nat) := [(⟨"TabletCommitsModel", "decide", "(I)I"⟩, 31), (⟨"TabletCommitsModel", "sweepTablet", "(II)V"⟩, 31)]
theorem lw_r3 : ∀ q ∈ lw_privs_3, lw_okq q := List.forall_mem_cons.mpr ⟨lw_p32, List.forall_mem_cons.mpr ⟨lw_p33, fun _ h => absurd h List.not_mem_nil⟩⟩
def lw_privs : List (MethodName × Nat) := lw_privs_1 ++ (lw_privs_2 ++ (lw_privs_3))
def lw_tbl : List Cond := k2_sels lw_privs ++ tables_1
theorem lw_privs_ok : ∀ q ∈ lw_privs, lw_okq q := by
  show ∀ q ∈ lw_privs_1 ++ (lw_privs_2 ++ (lw_privs_3)), lw_okq q
  exact List.forall_mem_append.mpr ⟨lw_r1, List.forall_mem_append.mpr ⟨lw_r2, lw_r3⟩⟩
end
section
/-! The classes whose objects the memory holds, by number: names, fields (declaring class, name, descriptor, final), types. -/
def nn_C (ci : Nat) : String := match ci with
  | 0 => "TabletCommits"
  | 1 => "TabletCommits$Oracle"
  | 2 => "TabletCommits$Tablet"
  | 3 => "TabletCommits$Cell"
  | 4 => "TabletCommits$Lock"
  | 5 => "TabletCommits$Version"
  | 6 => "TabletCommits$Transaction"
  | _ => "TabletCommitsModel"
def nn_N (ci : Nat) : Nat := match ci with
  | 0 => 6
  | 1 => 2
  | 2 => 6
  | 3 => 4
  | 4 => 6
  | 5 => 5
  | 6 => 11
  | _ => 31
def nn_T0 : u_T := fun k => match k with
  | 0 => ("TabletCommits", "life", "I", true)
  | 1 => ("TabletCommits", "times", "LTabletCommits$Oracle;", true)
  | 2 => ("TabletCommits", "tablets", "[LTabletCommits$Tablet;", true)
  | 3 => ("TabletCommits", "cells", "[LTabletCommits$Cell;", true)
  | 4 => ("TabletCommits", "transactions", "[LTabletCommits$Transaction;", true)
  | _ => ("TabletCommits", "now", "I", false)
def nn_T1 : u_T := fun k => match k with
  | 0 => ("TabletCommits$Oracle", "next", "I", false)
  | _ => ("TabletCommits$Oracle", "limit", "I", false)
def nn_T2 : u_T := fun k => match k with
  | 0 => ("TabletCommits$Tablet", "up", "Z", false)
  | 1 => ("TabletCommits$Tablet", "watermark", "I", false)
  | 2 => ("TabletCommits$Tablet", "logged", "I", false)
  | 3 => ("TabletCommits$Tablet", "entries", "I", false)
  | 4 => ("TabletCommits$Tablet", "failsIn", "I", false)
  | _ => ("TabletCommits$Tablet", "failsWhole", "Z", false)
def nn_T3 : u_T := fun k => match k with
  | 0 => ("TabletCommits$Cell", "home", "LTabletCommits$Tablet;", true)
  | 1 => ("TabletCommits$Cell", "lock", "LTabletCommits$Lock;", false)
  | 2 => ("TabletCommits$Cell", "latest", "LTabletCommits$Version;", false)
  | _ => ("TabletCommits$Cell", "kept", "I", false)
def nn_T4 : u_T := fun k => match k with
  | 0 => ("TabletCommits$Lock", "start", "I", true)
  | 1 => ("TabletCommits$Lock", "primary", "I", true)
  | 2 => ("TabletCommits$Lock", "client", "I", true)
  | 3 => ("TabletCommits$Lock", "tick", "I", true)
  | 4 => ("TabletCommits$Lock", "erases", "Z", true)
  | _ => ("TabletCommits$Lock", "value", "I", true)
def nn_T5 : u_T := fun k => match k with
  | 0 => ("TabletCommits$Version", "at", "I", true)
  | 1 => ("TabletCommits$Version", "start", "I", true)
  | 2 => ("TabletCommits$Version", "kind", "I", true)
  | 3 => ("TabletCommits$Version", "value", "I", true)
  | _ => ("TabletCommits$Version", "earlier", "LTabletCommits$Version;", false)
def nn_T6 : u_T := fun k => match k with
  | 0 => ("TabletCommits$Transaction", "client", "I", true)
  | 1 => ("TabletCommits$Transaction", "values", "[I", true)
  | 2 => ("TabletCommits$Transaction", "open", "Z", false)
  | 3 => ("TabletCommits$Transaction", "committing", "Z", false)
  | 4 => ("TabletCommits$Transaction", "start", "I", false)
  | 5 => ("TabletCommits$Transaction", "commitTime", "I", false)
  | 6 => ("TabletCommits$Transaction", "written", "I", false)
  | 7 => ("TabletCommits$Transaction", "erased", "I", false)
  | 8 => ("TabletCommits$Transaction", "prewritten", "I", false)
  | 9 => ("TabletCommits$Transaction", "followed", "I", false)
  | _ => ("TabletCommits$Transaction", "decided", "Z", false)
def nn_T7 : u_T := fun k => match k with
  | 0 => ("TabletCommitsModel", "life", "I", true)
  | 1 => ("TabletCommitsModel", "code", "I", false)
  | 2 => ("TabletCommitsModel", "time", "I", false)
  | 3 => ("TabletCommitsModel", "next", "I", false)
  | 4 => ("TabletCommitsModel", "limit", "I", false)
  | 5 => ("TabletCommitsModel", "start", "[I", true)
  | 6 => ("TabletCommitsModel", "primary", "[I", true)
  | 7 => ("TabletCommitsModel", "owner", "[I", true)
  | 8 => ("TabletCommitsModel", "made", "[I", true)
  | 9 => ("TabletCommitsModel", "will", "[I", true)
  | 10 => ("TabletCommitsModel", "worth", "[I", true)
  | 11 => ("TabletCommitsModel", "records", "I", false)
  | 12 => ("TabletCommitsModel", "cells", "[I", true)
  | 13 => ("TabletCommitsModel", "at", "[I", true)
  | 14 => ("TabletCommitsModel", "by", "[I", true)
  | 15 => ("TabletCommitsModel", "kind", "[I", true)
  | 16 => ("TabletCommitsModel", "value", "[I", true)
  | 17 => ("TabletCommitsModel", "down", "[Z", true)
  | 18 => ("TabletCommitsModel", "watermark", "[I", true)
  | 19 => ("TabletCommitsModel", "log", "[I", true)
  | 20 => ("TabletCommitsModel", "written", "[I", true)
  | 21 => ("TabletCommitsModel", "fuse", "[I", true)
  | 22 => ("TabletCommitsModel", "whole", "[Z", true)
  | 23 => ("TabletCommitsModel", "state", "[I", true)
  | 24 => ("TabletCommitsModel", "begun", "[I", true)
  | 25 => ("TabletCommitsModel", "commit", "[I", true)
  | 26 => ("TabletCommitsModel", "decided", "[Z", true)
  | 27 => ("TabletCommitsModel", "writes", "[I", true)
  | 28 => ("TabletCommitsModel", "values", "[I", true)
  | 29 => ("TabletCommitsModel", "prewritten", "[Z", true)
  | _ => ("TabletCommitsModel", "followed", "[Z", true)
def nn_T (ci : Nat) : u_T := match ci with
  | 0 => nn_T0
  | 1 => nn_T1
  | 2 => nn_T2
  | 3 => nn_T3
  | 4 => nn_T4
  | 5 => nn_T5
  | 6 => nn_T6
  | _ => nn_T7
def nn_t0 : Nat → FieldType := fun k => match k with
  | 0 => .int
  | 1 => .object "TabletCommits$Oracle"
  | 2 => .array (.object "TabletCommits$Tablet")
  | 3 => .array (.object "TabletCommits$Cell")
  | 4 => .array (.object "TabletCommits$Transaction")
  | _ => .int
def nn_t1 : Nat → FieldType := fun k => match k with
  | 0 => .int
  | _ => .int
def nn_t2 : Nat → FieldType := fun k => match k with
  | 0 => .boolean
  | 1 => .int
  | 2 => .int
  | 3 => .int
  | 4 => .int
  | _ => .boolean
def nn_t3 : Nat → FieldType := fun k => match k with
  | 0 => .object "TabletCommits$Tablet"
  | 1 => .object "TabletCommits$Lock"
  | 2 => .object "TabletCommits$Version"
  | _ => .int
def nn_t4 : Nat → FieldType := fun k => match k with
  | 0 => .int
  | 1 => .int
  | 2 => .int
  | 3 => .int
  | 4 => .boolean
  | _ => .int
def nn_t5 : Nat → FieldType := fun k => match k with
  | 0 => .int
  | 1 => .int
  | 2 => .int
  | 3 => .int
  | _ => .object "TabletCommits$Version"
def nn_t6 : Nat → FieldType := fun k => match k with
  | 0 => .int
  | 1 => .array .int
  | 2 => .boolean
  | 3 => .boolean
  | 4 => .int
  | 5 => .int
  | 6 => .int
  | 7 => .int
  | 8 => .int
  | 9 => .int
  | _ => .boolean
def nn_t7 : Nat → FieldType := fun k => match k with
  | 0 => .int
  | 1 => .int
  | 2 => .int
  | 3 => .int
  | 4 => .int
  | 5 => .array .int
  | 6 => .array .int
  | 7 => .array .int
  | 8 => .array .int
  | 9 => .array .int
  | 10 => .array .int
  | 11 => .int
  | 12 => .array .int
  | 13 => .array .int
  | 14 => .array .int
  | 15 => .array .int
  | 16 => .array .int
  | 17 => .array .boolean
  | 18 => .array .int
  | 19 => .array .int
  | 20 => .array .int
  | 21 => .array .int
  | 22 => .array .boolean
  | 23 => .array .int
  | 24 => .array .int
  | 25 => .array .int
  | 26 => .array .boolean
  | 27 => .array .int
  | 28 => .array .int
  | 29 => .array .boolean
  | _ => .array .boolean
def nn_t (ci : Nat) : Nat → FieldType := match ci with
  | 0 => nn_t0
  | 1 => nn_t1
  | 2 => nn_t2
  | 3 => nn_t3
  | 4 => nn_t4
  | 5 => nn_t5
  | 6 => nn_t6
  | _ => nn_t7
def mm_cl : List vw_C := (List.range 8).map (fun ci => (nn_C ci, nn_T ci, nn_N ci))
theorem mm_cl_at {ci : Nat} (h : ci < 8) : mm_cl[ci]? = some (nn_C ci, nn_T ci, nn_N ci) := by
  simp [mm_cl, h]
theorem nn_tok : ∀ ci, ci < 8 → ∀ k, k < nn_N ci → parseFieldDescriptor (nn_T ci k).2.2.1 = some (nn_t ci k) := by decide +kernel
theorem nn_nm : ∀ ci, ci < 8 → ∀ a, a < nn_N ci → ∀ b, b < nn_N ci → a ≠ b → (nn_T ci a).2.1 ≠ (nn_T ci b).2.1 := by decide +kernel
def nn_ok : FieldType → Bool
  | .int => true
  | .boolean => true
  | .object _ => true
  | .array _ => true
  | _ => false
theorem nn_tyok : ∀ ci, ci < 8 → ∀ k, k < nn_N ci → nn_ok (nn_t ci k) = true := by decide +kernel
/-- the tables' words that stay true from an invocation to the next; and those that another law carries on -/
def nn_TS : List Cond := lw_tbl.filter goodWord
def nn_isN : Cond → Bool
  | .fieldLinkNest .. => true
  | .methodLinkNest .. => true
  | .declares _ => true
  | .castable .. => true
  | _ => false
def nn_NS : List Cond := lw_tbl.filter nn_isN
theorem nn_in {w : Cond} (i : Nat) (h : tables_1[i]? = some w) (hg : goodWord w = true) : w ∈ nn_TS := List.mem_filter.mpr ⟨List.mem_append_right _ (List.mem_of_getElem? h), hg⟩
theorem nn_inp {w : Cond} (i : Nat) (h : (k2_sels lw_privs)[i]? = some w) (hg : goodWord w = true) : w ∈ nn_TS := List.mem_filter.mpr ⟨List.mem_append_left _ (List.mem_of_getElem? h), hg⟩
theorem nn_inN {w : Cond} (i : Nat) (h : tables_1[i]? = some w) (hg : nn_isN w = true) : w ∈ nn_NS := List.mem_filter.mpr ⟨List.mem_append_right _ (List.mem_of_getElem? h), hg⟩
theorem nn_good {w : Cond} (h : w ∈ nn_TS) : (w.onTables && w.keeps) = true ∨ ∃ ty, w = .arrayClass ty := good_of_word (List.mem_filter.mp h).2
theorem nn_GI {x z : Cond} (hz : z ∈ nn_TS) : GoodIn (x :: nn_TS) (z :: nn_TS) := by
  intro w hw
  rcases List.mem_cons.mp hw with rfl | hw
  · exact ⟨List.mem_cons_of_mem _ hz, nn_good hz⟩
  · exact ⟨List.mem_cons_of_mem _ hw, nn_good hw⟩
theorem nn_Nmoved {w : Cond} (hw : w ∈ nn_NS) {s U : State} (hW : s.WarmedH U.vm) (h : va_Nw w s) : va_Nw w U := by
  have hi := (List.mem_filter.mp hw).2
  cases w <;> first | (simp [nn_isN] at hi; done) | exact va_Nw.warmF hW h | exact va_Nw.warmM hW h | exact va_Nw.warmD hW h | exact va_Nw.warmC hW h
def nn_SS : List (String × Nat × String) := [("TabletCommits", 60, "no such client"), ("TabletCommits", 71, "a transaction is open"), ("TabletCommits", 214, "no such client or cell"), ("TabletCommits", 216, "no transaction is reading"), ("TabletCommits$Transaction", 53, "erased by the transaction itself"), ("TabletCommits", 102, "the tablet is down"), ("TabletCommits", 109, "the records of that time are swept"), ("TabletCommits", 119, "held or hindered"), ("TabletCommits", 132, "no value"), ("TabletCommits", 145, "no transaction is open"), ("TabletCommits", 160, "no such cell")]
def nn_ZS : List Cond := [.laysStatic "java/lang/Throwable" "UNASSIGNED_STACK" "[Ljava/lang/StackTraceElement;", .laysStatic "java/lang/Throwable" "SUPPRESSED_SENTINEL" "Ljava/util/List;", .isRef (.static "java/lang/Throwable" "UNASSIGNED_STACK" "[Ljava/lang/StackTraceElement;"), .isRef (.static "java/lang/Throwable" "SUPPRESSED_SENTINEL" "Ljava/util/List;")]
theorem nn_lk0 : ∀ k, k < nn_N 0 → u_lay (nn_C 0) (nn_T 0) k ∈ nn_TS
  | 0, _ => (nn_in 153 (by decide +kernel) rfl)
  | 1, _ => (nn_in 155 (by decide +kernel) rfl)
  | 2, _ => (nn_in 157 (by decide +kernel) rfl)
  | 3, _ => (nn_in 159 (by decide +kernel) rfl)
  | 4, _ => (nn_in 161 (by decide +kernel) rfl)
  | 5, _ => (nn_in 163 (by decide +kernel) rfl)
  | _ + 6, h => absurd h (by simp [nn_N])
theorem nn_lk1 : ∀ k, k < nn_N 1 → u_lay (nn_C 1) (nn_T 1) k ∈ nn_TS
  | 0, _ => (nn_in 41 (by decide +kernel) rfl)
  | 1, _ => (nn_in 43 (by decide +kernel) rfl)
  | _ + 2, h => absurd h (by simp [nn_N])
theorem nn_lk2 : ∀ k, k < nn_N 2 → u_lay (nn_C 2) (nn_T 2) k ∈ nn_TS
  | 0, _ => (nn_in 62 (by decide +kernel) rfl)
  | 1, _ => (nn_in 64 (by decide +kernel) rfl)
  | 2, _ => (nn_in 66 (by decide +kernel) rfl)
  | 3, _ => (nn_in 68 (by decide +kernel) rfl)
  | 4, _ => (nn_in 70 (by decide +kernel) rfl)
  | 5, _ => (nn_in 72 (by decide +kernel) rfl)
  | _ + 6, h => absurd h (by simp [nn_N])
theorem nn_lk3 : ∀ k, k < nn_N 3 → u_lay (nn_C 3) (nn_T 3) k ∈ nn_TS
  | 0, _ => (nn_in 88 (by decide +kernel) rfl)
  | 1, _ => (nn_in 90 (by decide +kernel) rfl)
  | 2, _ => (nn_in 92 (by decide +kernel) rfl)
  | 3, _ => (nn_in 94 (by decide +kernel) rfl)
  | _ + 4, h => absurd h (by simp [nn_N])
theorem nn_lk4 : ∀ k, k < nn_N 4 → u_lay (nn_C 4) (nn_T 4) k ∈ nn_TS
  | 0, _ => (nn_in 599 (by decide +kernel) rfl)
  | 1, _ => (nn_in 601 (by decide +kernel) rfl)
  | 2, _ => (nn_in 603 (by decide +kernel) rfl)
  | 3, _ => (nn_in 605 (by decide +kernel) rfl)
  | 4, _ => (nn_in 607 (by decide +kernel) rfl)
  | 5, _ => (nn_in 609 (by decide +kernel) rfl)
  | _ + 6, h => absurd h (by simp [nn_N])
theorem nn_lk5 : ∀ k, k < nn_N 5 → u_lay (nn_C 5) (nn_T 5) k ∈ nn_TS
  | 0, _ => (nn_in 487 (by decide +kernel) rfl)
  | 1, _ => (nn_in 489 (by decide +kernel) rfl)
  | 2, _ => (nn_in 491 (by decide +kernel) rfl)
  | 3, _ => (nn_in 493 (by decide +kernel) rfl)
  | 4, _ => (nn_in 495 (by decide +kernel) rfl)
  | _ + 5, h => absurd h (by simp [nn_N])
theorem nn_lk6 : ∀ k, k < nn_N 6 → u_lay (nn_C 6) (nn_T 6) k ∈ nn_TS
  | 0, _ => (nn_in 123 (by decide +kernel) rfl)
  | 1, _ => (nn_in 125 (by decide +kernel) rfl)
  | 2, _ => (nn_in 127 (by decide +kernel) rfl)
  | 3, _ => (nn_in 129 (by decide +kernel) rfl)
  | 4, _ => (nn_in 131 (by decide +kernel) rfl)
  | 5, _ => (nn_in 133 (by decide +kernel) rfl)
  | 6, _ => (nn_in 135 (by decide +kernel) rfl)
  | 7, _ => (nn_in 137 (by decide +kernel) rfl)
  | 8, _ => (nn_in 139 (by decide +kernel) rfl)
  | 9, _ => (nn_in 141 (by decide +kernel) rfl)
  | 10, _ => (nn_in 143 (by decide +kernel) rfl)
  | _ + 11, h => absurd h (by simp [nn_N])
theorem nn_lk7 : ∀ k, k < nn_N 7 → u_lay (nn_C 7) (nn_T 7) k ∈ nn_TS
  | 0, _ => (nn_in 675 (by decide +kernel) rfl)
  | 1, _ => (nn_in 677 (by decide +kernel) rfl)
  | 2, _ => (nn_in 679 (by decide +kernel) rfl)
  | 3, _ => (nn_in 681 (by decide +kernel) rfl)
  | 4, _ => (nn_in 683 (by decide +kernel) rfl)
  | 5, _ => (nn_in 685 (by decide +kernel) rfl)
  | 6, _ => (nn_in 687 (by decide +kernel) rfl)
  | 7, _ => (nn_in 689 (by decide +kernel) rfl)
  | 8, _ => (nn_in 691 (by decide +kernel) rfl)
  | 9, _ => (nn_in 693 (by decide +kernel) rfl)
  | 10, _ => (nn_in 695 (by decide +kernel) rfl)
  | 11, _ => (nn_in 697 (by decide +kernel) rfl)
  | 12, _ => (nn_in 699 (by decide +kernel) rfl)
  | 13, _ => (nn_in 701 (by decide +kernel) rfl)
  | 14, _ => (nn_in 703 (by decide +kernel) rfl)
  | 15, _ => (nn_in 705 (by decide +kernel) rfl)
  | 16, _ => (nn_in 707 (by decide +kernel) rfl)
  | 17, _ => (nn_in 709 (by decide +kernel) rfl)
  | 18, _ => (nn_in 711 (by decide +kernel) rfl)
  | 19, _ => (nn_in 713 (by decide +kernel) rfl)
  | 20, _ => (nn_in 715 (by decide +kernel) rfl)
  | 21, _ => (nn_in 717 (by decide +kernel) rfl)
  | 22, _ => (nn_in 719 (by decide +kernel) rfl)
  | 23, _ => (nn_in 721 (by decide +kernel) rfl)
  | 24, _ => (nn_in 723 (by decide +kernel) rfl)
  | 25, _ => (nn_in 725 (by decide +kernel) rfl)
  | 26, _ => (nn_in 727 (by decide +kernel) rfl)
  | 27, _ => (nn_in 729 (by decide +kernel) rfl)
  | 28, _ => (nn_in 731 (by decide +kernel) rfl)
  | 29, _ => (nn_in 733 (by decide +kernel) rfl)
  | 30, _ => (nn_in 735 (by decide +kernel) rfl)
  | _ + 31, h => absurd h (by simp [nn_N])
theorem nn_lay : ∀ ci, ci < 8 → ∀ w ∈ u_ws (nn_C ci) (nn_T ci) (nn_N ci), w ∈ nn_TS := by
  intro ci h8 w hw
  obtain ⟨k, hk, rfl⟩ := List.mem_map.mp hw
  have hk := List.mem_range.mp hk
  match ci, h8, hk with
  | 0, _, hk => exact nn_lk0 k hk
  | 1, _, hk => exact nn_lk1 k hk
  | 2, _, hk => exact nn_lk2 k hk
  | 3, _, hk => exact nn_lk3 k hk
  | 4, _, hk => exact nn_lk4 k hk
  | 5, _, hk => exact nn_lk5 k hk
  | 6, _, hk => exact nn_lk6 k hk
  | 7, _, hk => exact nn_lk7 k hk
  | _ + 8, h, _ => exact absurd h (by omega)
def yy_TC_init : MethodName := ⟨"TabletCommits", "<init>", "(I)V"⟩
abbrev bb_TC_init : ByteArray := prog_1_method_1_code
def yy_TC_begin : MethodName := ⟨"TabletCommits", "begin", "(I)I"⟩
abbrev bb_TC_begin : ByteArray := prog_1_method_2_code
def yy_TC_get : MethodName := ⟨"TabletCommits", "get", "(II)I"⟩
abbrev bb_TC_get : ByteArray := prog_1_method_3_code
def yy_TC_set : MethodName := ⟨"TabletCommits", "set", "(III)V"⟩
abbrev bb_TC_set : ByteArray := prog_1_method_4_code
def yy_TC_erase : MethodName := ⟨"TabletCommits", "erase", "(II)V"⟩
abbrev bb_TC_erase : ByteArray := prog_1_method_5_code
def yy_TC_step : MethodName := ⟨"TabletCommits", "step", "(I)I"⟩
abbrev bb_TC_step : ByteArray := prog_1_method_6_code
def yy_TC_kill : MethodName := ⟨"TabletCommits", "kill", "(I)Z"⟩
abbrev bb_TC_kill : ByteArray := prog_1_method_7_code
def yy_TC_clear : MethodName := ⟨"TabletCommits", "clear", "(I)I"⟩
abbrev bb_TC_clear : ByteArray := prog_1_method_8_code
def yy_TC_tick : MethodName := ⟨"TabletCommits", "tick", "(I)I"⟩
abbrev bb_TC_tick : ByteArray := prog_1_method_9_code
def yy_TC_crash : MethodName := ⟨"TabletCommits", "crash", "(I)Z"⟩
abbrev bb_TC_crash : ByteArray := prog_1_method_10_code
def yy_TC_recover : MethodName := ⟨"TabletCommits", "recover", "(I)Z"⟩
abbrev bb_TC_recover : ByteArray := prog_1_method_11_code
def yy_TC_fail : MethodName := ⟨"TabletCommits", "fail", "(IIZ)Z"⟩
abbrev bb_TC_fail : ByteArray := prog_1_method_12_code
def yy_TC_failOracle : MethodName := ⟨"TabletCommits", "failOracle", "()I"⟩
abbrev bb_TC_failOracle : ByteArray := prog_1_method_13_code
def yy_TC_sweep : MethodName := ⟨"TabletCommits", "sweep", "(I)I"⟩
abbrev bb_TC_sweep : ByteArray := prog_1_method_14_code
def yy_TC_transaction : MethodName := ⟨"TabletCommits", "transaction", "(II)I"⟩
abbrev bb_TC_transaction : ByteArray := prog_1_method_15_code
def yy_TC_lock : MethodName := ⟨"TabletCommits", "lock", "(II)I"⟩
abbrev bb_TC_lock : ByteArray := prog_1_method_16_code
def yy_TC_record : MethodName := ⟨"TabletCommits", "record", "(III)I"⟩
abbrev bb_TC_record : ByteArray := prog_1_method_17_code
def yy_TC_tablet : MethodName := ⟨"TabletCommits", "tablet", "(II)I"⟩
abbrev bb_TC_tablet : ByteArray := prog_1_method_18_code
def yy_TC_oracle : MethodName := ⟨"TabletCommits", "oracle", "(I)I"⟩
abbrev bb_TC_oracle : ByteArray := prog_1_method_19_code
def yy_TC_isClient : MethodName := ⟨"TabletCommits", "isClient", "(I)Z"⟩
abbrev bb_TC_isClient : ByteArray := prog_1_method_20_code
def yy_TC_isCell : MethodName := ⟨"TabletCommits", "isCell", "(I)Z"⟩
abbrev bb_TC_isCell : ByteArray := prog_1_method_21_code
def yy_TC_isTablet : MethodName := ⟨"TabletCommits", "isTablet", "(I)Z"⟩
abbrev bb_TC_isTablet : ByteArray := prog_1_method_22_code
def yy_TC_asNumber : MethodName := ⟨"TabletCommits", "asNumber", "(Z)I"⟩
abbrev bb_TC_asNumber : ByteArray := prog_1_method_23_code
def yy_TC_readingTransaction : MethodName := ⟨"TabletCommits", "readingTransaction", "(II)LTabletCommits$Transaction;"⟩
abbrev bb_TC_readingTransaction : ByteArray := prog_1_method_24_code
def yy_TC_advance : MethodName := ⟨"TabletCommits", "advance", "(LTabletCommits$Transaction;)I"⟩
abbrev bb_TC_advance : ByteArray := prog_1_method_25_code
def yy_TC_prewrite : MethodName := ⟨"TabletCommits", "prewrite", "(LTabletCommits$Transaction;)I"⟩
abbrev bb_TC_prewrite : ByteArray := prog_1_method_26_code
def yy_TC_takeLock : MethodName := ⟨"TabletCommits", "takeLock", "(LTabletCommits$Transaction;I)I"⟩
abbrev bb_TC_takeLock : ByteArray := prog_1_method_27_code
def yy_TC_endByConflict : MethodName := ⟨"TabletCommits", "endByConflict", "(LTabletCommits$Transaction;)I"⟩
abbrev bb_TC_endByConflict : ByteArray := prog_1_method_28_code
def yy_TC_decide : MethodName := ⟨"TabletCommits", "decide", "(LTabletCommits$Transaction;)I"⟩
abbrev bb_TC_decide : ByteArray := prog_1_method_29_code
def yy_TC_follow : MethodName := ⟨"TabletCommits", "follow", "(LTabletCommits$Transaction;)I"⟩
abbrev bb_TC_follow : ByteArray := prog_1_method_30_code
def yy_TC_clearUp : MethodName := ⟨"TabletCommits", "clearUp", "(LTabletCommits$Cell;)I"⟩
abbrev bb_TC_clearUp : ByteArray := prog_1_method_31_code
def yy_TC_isLoose : MethodName := ⟨"TabletCommits", "isLoose", "(LTabletCommits$Lock;)Z"⟩
abbrev bb_TC_isLoose : ByteArray := prog_1_method_32_code
def yy_TC_maySweep : MethodName := ⟨"TabletCommits", "maySweep", "(I)Z"⟩
abbrev bb_TC_maySweep : ByteArray := prog_1_method_33_code
def yy_TC_writeSweep : MethodName := ⟨"TabletCommits", "writeSweep", "(II)Z"⟩
abbrev bb_TC_writeSweep : ByteArray := prog_1_method_34_code
def yy_TC_leastOf : MethodName := ⟨"TabletCommits", "leastOf", "(I)I"⟩
abbrev bb_TC_leastOf : ByteArray := prog_1_method_35_code
def yy_Or_init : MethodName := ⟨"TabletCommits$Oracle", "<init>", "()V"⟩
abbrev bb_Or_init : ByteArray := prog_4_method_1_code
def yy_Or_handOut : MethodName := ⟨"TabletCommits$Oracle", "handOut", "()I"⟩
abbrev bb_Or_handOut : ByteArray := prog_4_method_2_code
def yy_Or_restart : MethodName := ⟨"TabletCommits$Oracle", "restart", "()I"⟩
abbrev bb_Or_restart : ByteArray := prog_4_method_3_code
def yy_Ta_init : MethodName := ⟨"TabletCommits$Tablet", "<init>", "()V"⟩
abbrev bb_Ta_init : ByteArray := prog_5_method_1_code
def yy_Ta_putsIntoLog : MethodName := ⟨"TabletCommits$Tablet", "putsIntoLog", "()Z"⟩
abbrev bb_Ta_putsIntoLog : ByteArray := prog_5_method_2_code
def yy_Ta_failAt : MethodName := ⟨"TabletCommits$Tablet", "failAt", "(IZ)V"⟩
abbrev bb_Ta_failAt : ByteArray := prog_5_method_3_code
def yy_Ta_comeUp : MethodName := ⟨"TabletCommits$Tablet", "comeUp", "()V"⟩
abbrev bb_Ta_comeUp : ByteArray := prog_5_method_4_code
def yy_Ta_answer : MethodName := ⟨"TabletCommits$Tablet", "answer", "(I)I"⟩
abbrev bb_Ta_answer : ByteArray := prog_5_method_5_code
def yy_Ce_init : MethodName := ⟨"TabletCommits$Cell", "<init>", "(LTabletCommits$Tablet;)V"⟩
abbrev bb_Ce_init : ByteArray := prog_2_method_1_code
def yy_Ce_isLockedBy : MethodName := ⟨"TabletCommits$Cell", "isLockedBy", "(I)Z"⟩
abbrev bb_Ce_isLockedBy : ByteArray := prog_2_method_2_code
def yy_Ce_isLockedBefore : MethodName := ⟨"TabletCommits$Cell", "isLockedBefore", "(I)Z"⟩
abbrev bb_Ce_isLockedBefore : ByteArray := prog_2_method_3_code
def yy_Ce_writeLock : MethodName := ⟨"TabletCommits$Cell", "writeLock", "(LTabletCommits$Lock;)Z"⟩
abbrev bb_Ce_writeLock : ByteArray := prog_2_method_4_code
def yy_Ce_writeDone : MethodName := ⟨"TabletCommits$Cell", "writeDone", "(I)Z"⟩
abbrev bb_Ce_writeDone : ByteArray := prog_2_method_5_code
def yy_Ce_writeVoid : MethodName := ⟨"TabletCommits$Cell", "writeVoid", "(I)Z"⟩
abbrev bb_Ce_writeVoid : ByteArray := prog_2_method_6_code
def yy_Ce_overtakes : MethodName := ⟨"TabletCommits$Cell", "overtakes", "(I)Z"⟩
abbrev bb_Ce_overtakes : ByteArray := prog_2_method_7_code
def yy_Ce_versionWrittenBy : MethodName := ⟨"TabletCommits$Cell", "versionWrittenBy", "(I)LTabletCommits$Version;"⟩
abbrev bb_Ce_versionWrittenBy : ByteArray := prog_2_method_8_code
def yy_Ce_lastWrittenBefore : MethodName := ⟨"TabletCommits$Cell", "lastWrittenBefore", "(I)LTabletCommits$Version;"⟩
abbrev bb_Ce_lastWrittenBefore : ByteArray := prog_2_method_9_code
def yy_Ce_versionAt : MethodName := ⟨"TabletCommits$Cell", "versionAt", "(I)LTabletCommits$Version;"⟩
abbrev bb_Ce_versionAt : ByteArray := prog_2_method_10_code
def yy_Ce_forgetBefore : MethodName := ⟨"TabletCommits$Cell", "forgetBefore", "(I)V"⟩
abbrev bb_Ce_forgetBefore : ByteArray := prog_2_method_11_code
def yy_Ce_removeBehind : MethodName := ⟨"TabletCommits$Cell", "removeBehind", "(LTabletCommits$Version;LTabletCommits$Version;)V"⟩
abbrev bb_Ce_removeBehind : ByteArray := prog_2_method_12_code
def yy_Ce_keep : MethodName := ⟨"TabletCommits$Cell", "keep", "(LTabletCommits$Version;)V"⟩
abbrev bb_Ce_keep : ByteArray := prog_2_method_13_code
def yy_Lo_init : MethodName := ⟨"TabletCommits$Lock", "<init>", "(IIIIZI)V"⟩
abbrev bb_Lo_init : ByteArray := prog_3_method_1_code
def yy_Lo_answer : MethodName := ⟨"TabletCommits$Lock", "answer", "(I)I"⟩
abbrev bb_Lo_answer : ByteArray := prog_3_method_2_code
def yy_Ve_init : MethodName := ⟨"TabletCommits$Version", "<init>", "(IIII)V"⟩
abbrev bb_Ve_init : ByteArray := prog_7_method_1_code
def yy_Ve_answer : MethodName := ⟨"TabletCommits$Version", "answer", "(I)I"⟩
abbrev bb_Ve_answer : ByteArray := prog_7_method_2_code
def yy_Tr_init : MethodName := ⟨"TabletCommits$Transaction", "<init>", "(I)V"⟩
abbrev bb_Tr_init : ByteArray := prog_6_method_1_code
def yy_Tr_startAt : MethodName := ⟨"TabletCommits$Transaction", "startAt", "(I)V"⟩
abbrev bb_Tr_startAt : ByteArray := prog_6_method_2_code
def yy_Tr_end : MethodName := ⟨"TabletCommits$Transaction", "end", "()V"⟩
abbrev bb_Tr_end : ByteArray := prog_6_method_3_code
def yy_Tr_writes : MethodName := ⟨"TabletCommits$Transaction", "writes", "(I)Z"⟩
abbrev bb_Tr_writes : ByteArray := prog_6_method_4_code
def yy_Tr_erases : MethodName := ⟨"TabletCommits$Transaction", "erases", "(I)Z"⟩
abbrev bb_Tr_erases : ByteArray := prog_6_method_5_code
def yy_Tr_ownValue : MethodName := ⟨"TabletCommits$Transaction", "ownValue", "(I)I"⟩
abbrev bb_Tr_ownValue : ByteArray := prog_6_method_6_code
def yy_Tr_willPut : MethodName := ⟨"TabletCommits$Transaction", "willPut", "(II)V"⟩
abbrev bb_Tr_willPut : ByteArray := prog_6_method_7_code
def yy_Tr_willErase : MethodName := ⟨"TabletCommits$Transaction", "willErase", "(I)V"⟩
abbrev bb_Tr_willErase : ByteArray := prog_6_method_8_code
def yy_Tr_primary : MethodName := ⟨"TabletCommits$Transaction", "primary", "()I"⟩
abbrev bb_Tr_primary : ByteArray := prog_6_method_9_code
def yy_Tr_lockFor : MethodName := ⟨"TabletCommits$Transaction", "lockFor", "(II)LTabletCommits$Lock;"⟩
abbrev bb_Tr_lockFor : ByteArray := prog_6_method_10_code
def yy_Tr_endIfAllFollowed : MethodName := ⟨"TabletCommits$Transaction", "endIfAllFollowed", "()Z"⟩
abbrev bb_Tr_endIfAllFollowed : ByteArray := prog_6_method_11_code
def yy_Tr_answer : MethodName := ⟨"TabletCommits$Transaction", "answer", "(I)I"⟩
abbrev bb_Tr_answer : ByteArray := prog_6_method_12_code
def yy_Mo_init : MethodName := ⟨"TabletCommitsModel", "<init>", "(I)V"⟩
abbrev bb_Mo_init : ByteArray := prog_9_method_1_code
def yy_Mo_in : MethodName := ⟨"TabletCommitsModel", "in", "(III)Z"⟩
abbrev bb_Mo_in : ByteArray := prog_9_method_2_code
def yy_Mo_thrown : MethodName := ⟨"TabletCommitsModel", "thrown", "()I"⟩
abbrev bb_Mo_thrown : ByteArray := prog_9_method_3_code
def yy_Mo_fails : MethodName := ⟨"TabletCommitsModel", "fails", "(I)I"⟩
abbrev bb_Mo_fails : ByteArray := prog_9_method_4_code
def yy_Mo_handOut : MethodName := ⟨"TabletCommitsModel", "handOut", "()I"⟩
abbrev bb_Mo_handOut : ByteArray := prog_9_method_5_code
def yy_Mo_entry : MethodName := ⟨"TabletCommitsModel", "entry", "(I)Z"⟩
abbrev bb_Mo_entry : ByteArray := prog_9_method_6_code
def yy_Mo_put : MethodName := ⟨"TabletCommitsModel", "put", "(IIIII)V"⟩
abbrev bb_Mo_put : ByteArray := prog_9_method_7_code
def yy_Mo_done : MethodName := ⟨"TabletCommitsModel", "done", "(II)Z"⟩
abbrev bb_Mo_done : ByteArray := prog_9_method_8_code
def yy_Mo_voids : MethodName := ⟨"TabletCommitsModel", "voids", "(II)Z"⟩
abbrev bb_Mo_voids : ByteArray := prog_9_method_9_code
def yy_Mo_locks : MethodName := ⟨"TabletCommitsModel", "locks", "(III)Z"⟩
abbrev bb_Mo_locks : ByteArray := prog_9_method_10_code
def yy_Mo_loose : MethodName := ⟨"TabletCommitsModel", "loose", "(I)Z"⟩
abbrev bb_Mo_loose : ByteArray := prog_9_method_11_code
def yy_Mo_decision : MethodName := ⟨"TabletCommitsModel", "decision", "(II)I"⟩
abbrev bb_Mo_decision : ByteArray := prog_9_method_12_code
def yy_Mo_overtaken : MethodName := ⟨"TabletCommitsModel", "overtaken", "(II)Z"⟩
abbrev bb_Mo_overtaken : ByteArray := prog_9_method_13_code
def yy_Mo_latest : MethodName := ⟨"TabletCommitsModel", "latest", "(II)I"⟩
abbrev bb_Mo_latest : ByteArray := prog_9_method_14_code
def yy_Mo_clearing : MethodName := ⟨"TabletCommitsModel", "clearing", "(I)I"⟩
abbrev bb_Mo_clearing : ByteArray := prog_9_method_15_code
def yy_Mo_isClient : MethodName := ⟨"TabletCommitsModel", "isClient", "(I)Z"⟩
abbrev bb_Mo_isClient : ByteArray := prog_9_method_16_code
def yy_Mo_isCell : MethodName := ⟨"TabletCommitsModel", "isCell", "(I)Z"⟩
abbrev bb_Mo_isCell : ByteArray := prog_9_method_17_code
def yy_Mo_begin : MethodName := ⟨"TabletCommitsModel", "begin", "(I)I"⟩
abbrev bb_Mo_begin : ByteArray := prog_9_method_18_code
def yy_Mo_get : MethodName := ⟨"TabletCommitsModel", "get", "(II)I"⟩
abbrev bb_Mo_get : ByteArray := prog_9_method_19_code
def yy_Mo_change : MethodName := ⟨"TabletCommitsModel", "change", "(IIII)V"⟩
abbrev bb_Mo_change : ByteArray := prog_9_method_20_code
def yy_Mo_set : MethodName := ⟨"TabletCommitsModel", "set", "(III)V"⟩
abbrev bb_Mo_set : ByteArray := prog_9_method_21_code
def yy_Mo_erase : MethodName := ⟨"TabletCommitsModel", "erase", "(II)V"⟩
abbrev bb_Mo_erase : ByteArray := prog_9_method_22_code
def yy_Mo_first : MethodName := ⟨"TabletCommitsModel", "first", "(I)I"⟩
abbrev bb_Mo_first : ByteArray := prog_9_method_23_code
def yy_Mo_nextCell : MethodName := ⟨"TabletCommitsModel", "nextCell", "(IZ)I"⟩
abbrev bb_Mo_nextCell : ByteArray := prog_9_method_24_code
def yy_Mo_ends : MethodName := ⟨"TabletCommitsModel", "ends", "(II)I"⟩
abbrev bb_Mo_ends : ByteArray := prog_9_method_25_code
def yy_Mo_step : MethodName := ⟨"TabletCommitsModel", "step", "(I)I"⟩
abbrev bb_Mo_step : ByteArray := prog_9_method_26_code
def yy_Mo_prewrite : MethodName := ⟨"TabletCommitsModel", "prewrite", "(II)I"⟩
abbrev bb_Mo_prewrite : ByteArray := prog_9_method_27_code
def yy_Mo_decide : MethodName := ⟨"TabletCommitsModel", "decide", "(I)I"⟩
abbrev bb_Mo_decide : ByteArray := prog_9_method_28_code
def yy_Mo_follow : MethodName := ⟨"TabletCommitsModel", "follow", "(I)I"⟩
abbrev bb_Mo_follow : ByteArray := prog_9_method_29_code
def yy_Mo_kill : MethodName := ⟨"TabletCommitsModel", "kill", "(I)Z"⟩
abbrev bb_Mo_kill : ByteArray := prog_9_method_30_code
def yy_Mo_clear : MethodName := ⟨"TabletCommitsModel", "clear", "(I)I"⟩
abbrev bb_Mo_clear : ByteArray := prog_9_method_31_code
def yy_Mo_tick : MethodName := ⟨"TabletCommitsModel", "tick", "(I)I"⟩
abbrev bb_Mo_tick : ByteArray := prog_9_method_32_code
def yy_Mo_crash : MethodName := ⟨"TabletCommitsModel", "crash", "(I)Z"⟩
abbrev bb_Mo_crash : ByteArray := prog_9_method_33_code
def yy_Mo_recover : MethodName := ⟨"TabletCommitsModel", "recover", "(I)Z"⟩
abbrev bb_Mo_recover : ByteArray := prog_9_method_34_code
def yy_Mo_fail : MethodName := ⟨"TabletCommitsModel", "fail", "(IIZ)Z"⟩
abbrev bb_Mo_fail : ByteArray := prog_9_method_35_code
def yy_Mo_failOracle : MethodName := ⟨"TabletCommitsModel", "failOracle", "()I"⟩
abbrev bb_Mo_failOracle : ByteArray := prog_9_method_36_code
def yy_Mo_sweep : MethodName := ⟨"TabletCommitsModel", "sweep", "(I)I"⟩
abbrev bb_Mo_sweep : ByteArray := prog_9_method_37_code
def yy_Mo_sweepTablet : MethodName := ⟨"TabletCommitsModel", "sweepTablet", "(II)V"⟩
abbrev bb_Mo_sweepTablet : ByteArray := prog_9_method_38_code
def yy_Mo_transaction : MethodName := ⟨"TabletCommitsModel", "transaction", "(II)I"⟩
abbrev bb_Mo_transaction : ByteArray := prog_9_method_39_code
def yy_Mo_lock : MethodName := ⟨"TabletCommitsModel", "lock", "(II)I"⟩
abbrev bb_Mo_lock : ByteArray := prog_9_method_40_code
def yy_Mo_record : MethodName := ⟨"TabletCommitsModel", "record", "(III)I"⟩
abbrev bb_Mo_record : ByteArray := prog_9_method_41_code
def yy_Mo_tablet : MethodName := ⟨"TabletCommitsModel", "tablet", "(II)I"⟩
abbrev bb_Mo_tablet : ByteArray := prog_9_method_42_code
def yy_Mo_oracle : MethodName := ⟨"TabletCommitsModel", "oracle", "(I)I"⟩
abbrev bb_Mo_oracle : ByteArray := prog_9_method_43_code
def yy_La_init : MethodName := ⟨"TabletCommitsLaw", "<init>", "()V"⟩
def yy_La_cell : MethodName := ⟨"TabletCommitsLaw", "cell", "([II)I"⟩
abbrev bb_La_cell : ByteArray := method_2_code
def yy_La_begin : MethodName := ⟨"TabletCommitsLaw", "begin", "(LTabletCommits;I[J)I"⟩
def yy_La_get : MethodName := ⟨"TabletCommitsLaw", "get", "(LTabletCommits;II[J)I"⟩
def yy_La_set : MethodName := ⟨"TabletCommitsLaw", "set", "(LTabletCommits;III)I"⟩
def yy_La_erase : MethodName := ⟨"TabletCommitsLaw", "erase", "(LTabletCommits;II)I"⟩
def yy_La_step : MethodName := ⟨"TabletCommitsLaw", "step", "(LTabletCommits;I[J)I"⟩
def yy_La_clear : MethodName := ⟨"TabletCommitsLaw", "clear", "(LTabletCommits;I[J)I"⟩
def yy_La_law : MethodName := ⟨"TabletCommitsLaw", "law", "([I)Z"⟩
end
section
abbrev mm_K : Type := Nat ⊕ (Nat × Nat)
abbrev mm_M : Type := (Nat → Option mm_K) × (Nat → Nat → Int32) × (Nat → Nat → Option Nat) × (Nat → Nat → Int64)
def mm_k (M : mm_M) (a : Nat) : Option mm_K := M.1 a
def mm_i (M : mm_M) (a j : Nat) : Int32 := M.2.1 a j
def mm_r (M : mm_M) (a j : Nat) : Option Nat := M.2.2.1 a j
def mm_l (M : mm_M) (a j : Nat) : Int64 := M.2.2.2 a j
def mm_si (M : mm_M) (a k : Nat) (x : Int32) : mm_M := (M.1, fun b j => if b = a ∧ j = k then x else M.2.1 b j, M.2.2.1, M.2.2.2)
def mm_sr (M : mm_M) (a k : Nat) (x : Option Nat) : mm_M := (M.1, M.2.1, fun b j => if b = a ∧ j = k then x else M.2.2.1 b j, M.2.2.2)
def mm_sl (M : mm_M) (a k : Nat) (x : Int64) : mm_M := (M.1, M.2.1, M.2.2.1, fun b j => if b = a ∧ j = k then x else M.2.2.2 b j)
def mm_nw (M : mm_M) (a : Nat) (t : mm_K) : mm_M := (fun b => if b = a then some t else M.1 b, fun b j => if b = a then 0 else M.2.1 b j, fun b j => if b = a then none else M.2.2.1 b j, fun b j => if b = a then 0 else M.2.2.2 b j)
theorem mm_k_si (M : mm_M) (a k b : Nat) (x : Int32) : mm_k (mm_si M a k x) b = mm_k M b := rfl
theorem mm_k_sr (M : mm_M) (a k b : Nat) (x : Option Nat) : mm_k (mm_sr M a k x) b = mm_k M b := rfl
theorem mm_k_sl (M : mm_M) (a k b : Nat) (x : Int64) : mm_k (mm_sl M a k x) b = mm_k M b := rfl
theorem mm_k_nw (M : mm_M) (a b : Nat) (t : mm_K) : mm_k (mm_nw M a t) b = if b = a then some t else mm_k M b := rfl
theorem mm_i_si (M : mm_M) (a k b j : Nat) (x : Int32) : mm_i (mm_si M a k x) b j = if b = a ∧ j = k then x else mm_i M b j := rfl
theorem mm_i_sr (M : mm_M) (a k b j : Nat) (x : Option Nat) : mm_i (mm_sr M a k x) b j = mm_i M b j := rfl
theorem mm_i_sl (M : mm_M) (a k b j : Nat) (x : Int64) : mm_i (mm_sl M a k x) b j = mm_i M b j := rfl
theorem mm_i_nw (M : mm_M) (a b j : Nat) (t : mm_K) : mm_i (mm_nw M a t) b j = if b = a then 0 else mm_i M b j := rfl
theorem mm_r_si (M : mm_M) (a k b j : Nat) (x : Int32) : mm_r (mm_si M a k x) b j = mm_r M b j := rfl
theorem mm_r_sr (M : mm_M) (a k b j : Nat) (x : Option Nat) : mm_r (mm_sr M a k x) b j = if b = a ∧ j = k then x else mm_r M b j := rfl
theorem mm_r_sl (M : mm_M) (a k b j : Nat) (x : Int64) : mm_r (mm_sl M a k x) b j = mm_r M b j := rfl
theorem mm_r_nw (M : mm_M) (a b j : Nat) (t : mm_K) : mm_r (mm_nw M a t) b j = if b = a then none else mm_r M b j := rfl
theorem mm_l_si (M : mm_M) (a k b j : Nat) (x : Int32) : mm_l (mm_si M a k x) b j = mm_l M b j := rfl
theorem mm_l_sr (M : mm_M) (a k b j : Nat) (x : Option Nat) : mm_l (mm_sr M a k x) b j = mm_l M b j := rfl
theorem mm_l_sl (M : mm_M) (a k b j : Nat) (x : Int64) : mm_l (mm_sl M a k x) b j = if b = a ∧ j = k then x else mm_l M b j := rfl
theorem mm_l_nw (M : mm_M) (a b j : Nat) (t : mm_K) : mm_l (mm_nw M a t) b j = if b = a then 0 else mm_l M b j := rfl
def mm_fv (M : mm_M) (a : Nat) (ty : FieldType) (j : Nat) : Value := match ty with
  | .object _ => va_rf (mm_r M a j)
  | .array _ => va_rf (mm_r M a j)
  | _ => .int (mm_i M a j)
def mm_fs (M : mm_M) (a ci : Nat) : List Value := (List.range (nn_N ci)).map (fun j => mm_fv M a (nn_t ci j) j)
def mm_ac (M : mm_M) (a ai n : Nat) : vp_A := match ai with
  | 2 => (n, .inr (.inl (mm_l M a)))
  | 3 => (n, .inr (.inr (.inr (.inr (mm_r M a)))))
  | 4 => (n, .inr (.inr (.inr (.inr (mm_r M a)))))
  | 5 => (n, .inr (.inr (.inr (.inr (mm_r M a)))))
  | _ => (n, .inl (mm_i M a))
abbrev mm_G : Type := va_G × (Nat → ClassId) × (Nat × Cell)
def mm_e (G : mm_G) (M : mm_M) (a : Nat) (t : mm_K) : va_E := match t with
  | .inl ci => .inr (ci, mm_fs M a ci)
  | .inr q => .inl (G.2.1 q.1, mm_ac M a q.1 q.2)
def mm_H (G : mm_G) (M : mm_M) (H : Heap) : Prop :=
  (∀ (a : Nat) (t : mm_K), mm_k M a = some t → va_at G.1 mm_cl (a, mm_e G M a t) H) ∧ H[G.2.2.1]? = some G.2.2.2 ∧ mm_k M G.2.2.1 = none
def mm_ty (ai : Nat) : FieldType := match ai with
  | 0 => .int
  | 1 => .boolean
  | 2 => .long
  | 3 => .object "TabletCommits$Tablet"
  | 4 => .object "TabletCommits$Cell"
  | 5 => .object "TabletCommits$Transaction"
  | _ => .int
def mm_tys (G : mm_G) : List (ClassId × FieldType) := (List.range 7).map (fun i => (G.2.1 i, mm_ty i))
theorem mm_tys_at (G : mm_G) {i : Nat} (h : i < 7) : (mm_tys G)[i]? = some (G.2.1 i, mm_ty i) := by
  simp [mm_tys, h]
def mm_Z (G : mm_G) (U : State) : Prop := ∀ U' : State, U'.vm = U.vm → U'.heap[G.2.2.1]? = some G.2.2.2 → ∀ w ∈ nn_ZS, w.before #[] U' = true
theorem mm_Z.moved {G : mm_G} {s U : State} (hW : s.WarmedH U.vm) (h : mm_Z G s) : mm_Z G U := by
  intro U' hv hc w hw
  have h1 := h (U'.setVm s.vm) rfl hc w hw
  have hW' : (U'.setVm s.vm).WarmedH U.vm := hW
  have hk : w.keeps = true := by
    simp only [nn_ZS, List.mem_cons, List.not_mem_nil, or_false] at hw
    rcases hw with rfl | rfl | rfl | rfl <;> rfl
  have h2 := Cond.holds_shifted (args := #[]) (o := none) (State.Shifted.of_warmed hW') w [] hk h1
  have e : (U'.setVm s.vm).setVm U.vm = U' := by rw [← hv]; rfl
  rw [e] at h2
  exact h2
def mm_S (U : State) : Prop := ∀ q ∈ nn_SS, ∃ a, vk_R q.1 q.2.1 q.2.2 a U
def nn_X (ei : Nat) : String := match ei with
  | 0 => "java/lang/IllegalArgumentException"
  | 1 => "java/lang/IllegalStateException"
  | 2 => "java/util/NoSuchElementException"
  | _ => "java/lang/UnsupportedOperationException"
def mm_N (U : State) : Prop := ∀ i j, i < 4 → j < 4 → i ≠ j → va_Nc (nn_X i) (nn_X j) U
def mm_Kn (G : mm_G) (U : State) : Prop :=
  va_K G.1 mm_cl (mm_tys G) U ∧ (∀ w ∈ nn_NS, va_Nw w U) ∧ (va_AO "TabletCommits$Tablet" U ∧ va_AO "TabletCommits$Cell" U ∧ va_AO "TabletCommits$Transaction" U) ∧ mm_Z G U ∧ mm_S U ∧ mm_N U
theorem mm_Kn.moved {G : mm_G} {s U : State} (hW : s.WarmedH U.vm) (h : mm_Kn G s) : mm_Kn G U :=
  ⟨va_K.moved hW.alike h.1, fun w hw => nn_Nmoved hw hW (h.2.1 w hw), ⟨va_AO.moved hW.alike h.2.2.1.1, va_AO.moved hW.alike h.2.2.1.2.1, va_AO.moved hW.alike h.2.2.1.2.2⟩, h.2.2.2.1.moved hW, (fun q hq => by
    obtain ⟨a, ha⟩ := h.2.2.2.2.1 q hq
    exact ⟨a, ha.warm hW⟩), fun i j hi hj hij => (h.2.2.2.2.2 i j hi hj hij).moved hW.alike⟩
theorem mm_Kn.same {G : mm_G} {u U : State} (hv : u.vm = U.vm) (h : mm_Kn G u) : mm_Kn G U := by
  have hal : u.vm.Alike U.vm := by rw [hv]; exact Vm.Alike.refl _
  refine ⟨va_K.moved hal h.1, fun w hw => ?_, ⟨va_AO.moved hal h.2.2.1.1, va_AO.moved hal h.2.2.1.2.1, va_AO.moved hal h.2.2.1.2.2⟩, fun U' hv' hc w hw => h.2.2.2.1 U' (hv'.trans hv.symm) hc w hw, fun q hq => ?_, fun i j hi hj hij => (h.2.2.2.2.2 i j hi hj hij).moved hal⟩
  · refine va_Nw.same ?_ hv (h.2.1 w hw)
    have hi := (List.mem_filter.mp hw).2
    cases w <;> first | (simp [nn_isN] at hi; done) | rfl
  · obtain ⟨a, ha⟩ := h.2.2.2.2.1 q hq
    exact ⟨a, vk_R.same hv.symm ha⟩
theorem mm_one {G : mm_G} {H : Heap} {a : Nat} {x : va_E} (h : va_at G.1 mm_cl (a, x) H) : va_P G.1 mm_cl [(a, x)] H := by
  intro i q hq
  cases i with
  | zero =>
    cases hq
    exact h
  | succ i => simp at hq
theorem mm_H.get {G : mm_G} {M : mm_M} {H : Heap} (h : mm_H G M H) {a : Nat} {t : mm_K} (hk : mm_k M a = some t) : va_P G.1 mm_cl [(a, mm_e G M a t)] H := mm_one (h.1 a t hk)
theorem mm_H.lt {G : mm_G} {M : mm_M} {H : Heap} (h : mm_H G M H) {a : Nat} {t : mm_K} (hk : mm_k M a = some t) : a < H.size := (h.1 a t hk).lt
theorem mm_H.fresh {G : mm_G} {M : mm_M} {H : Heap} (h : mm_H G M H) {a : Nat} (ha : H.size ≤ a) : mm_k M a = none := by
  cases hk : mm_k M a with
  | none => rfl
  | some t => exact absurd (h.lt hk) (by omega)
theorem mm_H.put {G : mm_G} {M M' : mm_M} {H H' : Heap} {a : Nat} {t : mm_K} (h : mm_H G M H) (hk : mm_k M a = some t) (h1 : ∀ b, mm_k M' b = mm_k M b) (h2 : ∀ b, b ≠ a → ∀ u, mm_e G M' b u = mm_e G M b u)
    (h3 : va_at G.1 mm_cl (a, mm_e G M' a t) H') (h4 : ∀ q : Nat, q ≠ a → H'[q]? = H[q]?) : mm_H G M' H' := by
  refine ⟨fun b u hb => ?_, ?_, by rw [h1]; exact h.2.2⟩
  · by_cases e : b = a
    · subst e
      rw [h1, hk] at hb
      cases hb
      exact h3
    · rw [h1] at hb
      rw [h2 b e]
      exact (h.1 b u hb).kept (h4 b e)
  · have hne : G.2.2.1 ≠ a := fun e => by
      have h5 := h.2.2
      rw [e, hk] at h5
      cases h5
    rw [h4 _ hne]
    exact h.2.1
theorem mm_e_nw {G : mm_G} {M : mm_M} {a b : Nat} {t : mm_K} (hb : b ≠ a) (u : mm_K) : mm_e G (mm_nw M a t) b u = mm_e G M b u := by
  have e1 : ∀ j, mm_i (mm_nw M a t) b j = mm_i M b j := fun j => by rw [mm_i_nw, if_neg hb]
  have e2 : ∀ j, mm_r (mm_nw M a t) b j = mm_r M b j := fun j => by rw [mm_r_nw, if_neg hb]
  have e3 : ∀ j, mm_l (mm_nw M a t) b j = mm_l M b j := fun j => by rw [mm_l_nw, if_neg hb]
  have f1 : mm_i (mm_nw M a t) b = mm_i M b := funext e1
  have f2 : mm_r (mm_nw M a t) b = mm_r M b := funext e2
  have f3 : mm_l (mm_nw M a t) b = mm_l M b := funext e3
  cases u with
  | inl ci =>
    show Sum.inr (ci, mm_fs (mm_nw M a t) b ci) = Sum.inr (ci, mm_fs M b ci)
    have : mm_fs (mm_nw M a t) b ci = mm_fs M b ci := by
      unfold mm_fs mm_fv
      rw [f1, f2]
    rw [this]
  | inr q =>
    show Sum.inl (G.2.1 q.1, mm_ac (mm_nw M a t) b q.1 q.2) = Sum.inl (G.2.1 q.1, mm_ac M b q.1 q.2)
    have : mm_ac (mm_nw M a t) b q.1 q.2 = mm_ac M b q.1 q.2 := by
      unfold mm_ac
      rw [f1, f2, f3]
    rw [this]
theorem mm_H.new {G : mm_G} {M : mm_M} {H H' : Heap} {t : mm_K} (h : mm_H G M H) (h3 : va_at G.1 mm_cl (H.size, mm_e G (mm_nw M H.size t) H.size t) H') (h4 : ∀ q : Nat, q < H.size → H'[q]? = H[q]?) : mm_H G (mm_nw M H.size t) H' := by
  have hs : G.2.2.1 < H.size := (Array.getElem?_eq_some_iff.mp h.2.1).1
  refine ⟨fun b u hb => ?_, by rw [h4 _ hs]; exact h.2.1, by rw [mm_k_nw, if_neg (Nat.ne_of_lt hs)]; exact h.2.2⟩
  rw [mm_k_nw] at hb
  by_cases e : b = H.size
  · subst e
    rw [if_pos rfl] at hb
    cases hb
    exact h3
  · rw [if_neg e] at hb
    rw [mm_e_nw e]
    exact (h.1 b u hb).kept (h4 b (h.lt hb))
theorem mm_fsV {M : mm_M} {a ci j : Nat} (hj : j < nn_N ci) : vp_V (mm_fs M a ci) j = mm_fv M a (nn_t ci j) j := by
  simp [vp_V, mm_fs, hj]
theorem mm_fsL {M : mm_M} {a ci : Nat} : (mm_fs M a ci).length = nn_N ci := by simp [mm_fs]
theorem mm_fsG {M : mm_M} {a ci j : Nat} (hj : j < nn_N ci) : (mm_fs M a ci)[j]? = some (mm_fv M a (nn_t ci j) j) := by
  simp [mm_fs, hj]
theorem mm_fv_nw {M : mm_M} {a : Nat} {t : mm_K} {ty : FieldType} {j : Nat} (h : nn_ok ty = true) : defaultValue ty = mm_fv (mm_nw M a t) a ty j := by
  have e1 : mm_i (mm_nw M a t) a j = 0 := by rw [mm_i_nw, if_pos rfl]
  have e2 : mm_r (mm_nw M a t) a j = none := by rw [mm_r_nw, if_pos rfl]
  cases ty <;> first | (simp [nn_ok] at h; done) | (simp [defaultValue, mm_fv, e1, e2, va_rf]; done) | rfl
def mm_ro (t : mm_K) : Bool := match t with
  | .inr (6, _) => true
  | _ => false
def mm_w (M : mm_M) (q : Nat) : Prop := ∃ t, mm_k M q = some t ∧ mm_ro t = false
def mm_A (M : mm_M) (sz : Nat) (q : Nat) : Prop := mm_w M q ∨ sz ≤ q
abbrev mm_O : Type := Option Value ⊕ (Nat × Nat)
def mm_oo (s t : State) (M : mm_M) (o : Outcome) (oo : mm_O) : Prop := match oo with
  | .inl v => o = .returned v
  | .inr q => o = .threw q.1 ∧ mm_k M q.1 = none ∧ ∃ ce : Cell, t.heap[q.1]? = some ce ∧ s.vm.findClass (nn_X q.2) = some ce.cls ∧ ce.vm = .none
def mm_Q (G : mm_G) (Q : mm_O → mm_M → Prop) (A : Nat → Prop) : Array Value → State → Outcome → State → Prop := fun _ s o t =>
  ∃ (oo : mm_O) (M : mm_M), mm_oo s t M o oo ∧ Q oo M ∧ mm_H G M t.heap ∧ s.heap.size ≤ t.heap.size ∧ ∀ q, mm_w M q → A q
def mm_X (below : List Frame) (Qc : Array Value → State → Outcome → State → Prop) (args : Array Value) (s : State) (mc ms : Nat) (A : Nat → Prop) : State → Prop := fun t =>
  ∃ o, t.status = .running ∧ Ended t below o ∧ Qc args s o t ∧ ∃ L : List Loc, (s.WarmedH t.vm ∧ s.sameButNew ({ t with vm := s.vm } : State) L mc ms) ∧ ∀ q ∈ L, A q.base
theorem mm_X.of {below : List Frame} {Qc : Array Value → State → Outcome → State → Prop} {args : Array Value} {s t : State} {mc ms : Nat} {A : Nat → Prop} (h : MQ below Qc args s mc ms A t) : mm_X below Qc args s mc ms A t := by
  obtain ⟨o, h1, h2, h3, L, h4, h5⟩ := h
  exact ⟨o, h1, h2, h3, L, h4.2, h5⟩
def mm_E (p : Program) (s : State) (m : MethodId) (args : Array Value) (meth : Method) (c : Code) (y : MethodName) (cc : ByteArray) (nL : Nat) (ret : Option FieldType) (G : mm_G) (A : Nat → Prop) : Prop :=
  p.tables.exec = Jvm.exec ∧ c.code = cc ∧ c.maxLocals = nL ∧ s.vm.findClass y.cls = some m.cls ∧ (∀ w ∈ nn_TS, w.before args s = true) ∧ mm_Kn G s ∧ meth.sig.returnType = ret ∧ meth.locks = false ∧ meth.name = y.name ∧ s.methodNamed? y = some m ∧ ∀ q, s.heap.size ≤ q → A q
def mm_L (s : State) (A : Nat → Prop) (M : mm_M) (H : Heap) (locs : List Loc) : Prop := (∀ q ∈ locs, A q.base) ∧ (∀ q, mm_w M q → A q) ∧ s.heap.size ≤ H.size
def jj_ (l : Launch) (y : MethodName) (cc : ByteArray) (nL : Nat) (ret : Option FieldType) (G : mm_G) (R : Room) (A : Nat → Prop) (Q : mm_O → mm_M → Prop) (mc ms pc : Nat) (lv : List (Nat × Value)) (st : List Value) (M : mm_M) : Prop :=
  ∀ (p : Program) (e : Env) (s : State) (m : MethodId) (args : Array Value) (below : List Frame) (meth : Method) (c : Code) (H : Heap) (locs : List Loc) (cells slots : Nat) (ls : Array Slot),
    mm_E p s m args meth c y cc nL ret G A → mm_H G M H → lv_has ls nL lv → mm_L s A M H locs → (cells + mc ≤ R.cells ∧ slots + ms ≤ R.slots) →
    W p l e R s m args below meth c H locs cells slots (mm_X below (mm_Q G Q A) args s R.cells R.slots A) (F0 m pc ls st)
def mm_R (d mc ms : Nat) : Room := { frames := d, cells := mc, slots := ms, locals := 34 * d }
def mm_Pc (G : mm_G) (M : mm_M) (sz : Nat) (vs : List Value) : Array Value → State → Prop := va_Pc vs (fun U => U.heap.size = sz ∧ mm_H G M U.heap ∧ mm_Kn G U)
def mm_ret (Q : Option Value → mm_M → Prop) : mm_O → mm_M → Prop := fun o M => match o with
  | .inl v => Q v M
  | .inr _ => False
def ct_ (l : Launch) (y : MethodName) (cc : ByteArray) (nL : Nat) (ret : Option FieldType) (d mc ms : Nat) (vs : List Value) (M : mm_M) (Q : Option Value → mm_M → Prop) : Prop :=
  ∀ (G : mm_G) (sz : Nat), Met l y (.code y cc nL ret :: nn_TS) (mm_R d mc ms) (mm_Pc G M sz vs) (mm_Q G (mm_ret Q) (mm_A M sz)) mc ms (mm_A M sz)
theorem mm_blind {G : mm_G} {M : mm_M} {sz : Nat} {vs : List Value} : FrameBlind (mm_Pc G M sz vs) := by
  intro a U g mk h
  obtain ⟨h1, h2, h3, h4⟩ := h
  exact ⟨h1, h2, h3, mm_Kn.same (u := U) (U := U.calling g mk a) rfl h4⟩
section MMW
variable {p : Program} {l : Launch} {e : Env} {R : Room} {s : State} {m : MethodId} {args : Array Value} {below : List Frame} {meth : Method} {c : Code} {H : Heap} {locs : List Loc} {cells slots : Nat}
theorem mm_mono {Q Q' : State → Prop} {g : JFrame} (h : ∀ t, Q t → Q' t) (k : W p l e R s m args below meth c H locs cells slots Q g) : W p l e R s m args below meth c H locs cells slots Q' g := by
  intro T hT X
  obtain ⟨t, a, b⟩ := k T hT X
  exact ⟨t, a, h t b⟩
end MMW
theorem ct_of {l : Launch} {y : MethodName} {cc : ByteArray} {nL : Nat} {ret : Option FieldType} {d mc ms : Nat} {vs : List Value} {M : mm_M} {Q : Option Value → mm_M → Prop} (hy : plainName y.cls = true) (hn : (lg_sl vs).length ≤ nL)
    (h : ∀ (G : mm_G) (A : Nat → Prop), jj_ l y cc nL ret G (mm_R d mc ms) A (mm_ret Q) mc ms 0 (lv_args 0 vs) [] M) : ct_ l y cc nL ret d mc ms vs M Q := by
  intro G sz
  refine Met.ofW (cc := cc) (maxL := nL) (ret := ret) hy rfl ?_
  intro p e s m args below meth c s₁ B hml hv
  obtain ⟨rfl, hsz, hH, hK⟩ := hv
  subst hsz
  rw [lg_entry_eq]
  have hts := atoms_spec (ws := .code y cc nL ret :: nn_TS) B.pre
  have k := h G (mm_A M s.heap.size) p e s m vs.toArray below meth c s.heap [] 0 0 _
    ⟨B.exec, B.bytes, hml, findClass_of_methodNamed B.named, fun w hw => hts w (List.mem_cons_of_mem _ hw), hK, B.returns, B.notSynchronized, (name_of_methodNamed B.named B.method).1, B.named, fun q hq => Or.inr hq⟩
    hH (lv_entry vs hn) ⟨(fun q hq => by cases hq), (fun q hq => Or.inl hq), Nat.le_refl _⟩ ⟨Nat.le_of_eq (Nat.zero_add _), Nat.le_of_eq (Nat.zero_add _)⟩
  refine mm_mono (fun t ht => ?_) k
  obtain ⟨o, h1, h2, ⟨oo, M', h3, h4, h5⟩, L, h6, h7⟩ := ht
  cases oo with
  | inr q => exact h4.elim
  | inl v => exact ⟨o, h1, h2, ⟨.inl v, M', h3, h4, h5⟩, L, ⟨⟨v, h3⟩, h6⟩, h7⟩
end
section
section JJ
variable {l : Launch} {y : MethodName} {cc : ByteArray} {nL : Nat} {ret : Option FieldType} {G : mm_G} {R : Room} {A : Nat → Prop} {Q : mm_O → mm_M → Prop} {mc ms pc : Nat} {lv : List (Nat × Value)} {st : List Value} {M : mm_M}
theorem jj_go {pc' : Nat} {st' : List Value} (h : ∀ (p : Program) (e : Env) (s : State) (m : MethodId) (args : Array Value) (below : List Frame) (meth : Method) (c : Code) (H : Heap) (locs : List Loc) (cells slots : Nat) (ls : Array Slot) (Q' : State → Prop), p.tables.exec = Jvm.exec → c.code = cc → lv_has ls nL lv →
      W p l e R s m args below meth c H locs cells slots Q' (F0 m pc' ls st') → W p l e R s m args below meth c H locs cells slots Q' (F0 m pc ls st))
    (k : jj_ l y cc nL ret G R A Q mc ms pc' lv st' M) : jj_ l y cc nL ret G R A Q mc ms pc lv st M := by
  intro p e s m args below meth c H locs cells slots ls hE hH hl hL hr
  exact h p e s m args below meth c H locs cells slots ls _ hE.1 hE.2.1 hl (k p e s m args below meth c H locs cells slots ls hE hH hl hL hr)
theorem jj_iconst {n : Int} {v : Int32} (hd : decode cc pc = .ok (.iconst n, 1)) (hv : Int32.ofInt n = v) (k : jj_ l y cc nL ret G R A Q mc ms (pc + 1) lv (.int v :: st) M) : jj_ l y cc nL ret G R A Q mc ms pc lv st M := jj_go (fun _ _ _ _ _ _ _ _ _ _ _ _ _ _ hx hb hl w => lv_iconst hx hb hd hv w) k
theorem jj_bipush {n : Int} {v : Int32} (hd : decode cc pc = .ok (.bipush n, 2)) (hv : (Int8.ofInt n).toInt32 = v) (k : jj_ l y cc nL ret G R A Q mc ms (pc + 2) lv (.int v :: st) M) : jj_ l y cc nL ret G R A Q mc ms pc lv st M := jj_go (fun _ _ _ _ _ _ _ _ _ _ _ _ _ _ hx hb hl w => lv_bipush hx hb hd hv w) k
theorem jj_sipush {n : Int} {v : Int32} (hd : decode cc pc = .ok (.sipush n, 3)) (hv : (Int16.ofInt n).toInt32 = v) (k : jj_ l y cc nL ret G R A Q mc ms (pc + 3) lv (.int v :: st) M) : jj_ l y cc nL ret G R A Q mc ms pc lv st M := jj_go (fun _ _ _ _ _ _ _ _ _ _ _ _ _ _ hx hb hl w => lv_sipush hx hb hd hv w) k
theorem jj_null  (hd : decode cc pc = .ok (.aconst_null, 1))  (k : jj_ l y cc nL ret G R A Q mc ms (pc + 1) lv (.null :: st) M) : jj_ l y cc nL ret G R A Q mc ms pc lv st M := jj_go (fun _ _ _ _ _ _ _ _ _ _ _ _ _ _ hx hb hl w => lv_null hx hb hd w) k
theorem jj_iload_n {k4 : Fin 4} {x : Int32} (i : Nat) (hd : decode cc pc = .ok (.iload_n k4, 1)) (hi : lv[i]? = some (k4.val, .int x)) (k : jj_ l y cc nL ret G R A Q mc ms (pc + 1) lv (.int x :: st) M) : jj_ l y cc nL ret G R A Q mc ms pc lv st M := jj_go (fun _ _ _ _ _ _ _ _ _ _ _ _ _ _ hx hb hl w => lv_iload_n hx hb hd rfl (lv_at hl i hi) w) k
theorem jj_iload {n : Nat} {x : Int32} (i : Nat) (hd : decode cc pc = .ok (.iload n, 2)) (hi : lv[i]? = some (n, .int x)) (k : jj_ l y cc nL ret G R A Q mc ms (pc + 2) lv (.int x :: st) M) : jj_ l y cc nL ret G R A Q mc ms pc lv st M := jj_go (fun _ _ _ _ _ _ _ _ _ _ _ _ _ _ hx hb hl w => lv_iload hx hb hd (lv_at hl i hi) w) k
theorem jj_aload_n {k4 : Fin 4} {x : Nat} (i : Nat) (hd : decode cc pc = .ok (.aload_n k4, 1)) (hi : lv[i]? = some (k4.val, .ref x)) (k : jj_ l y cc nL ret G R A Q mc ms (pc + 1) lv (.ref x :: st) M) : jj_ l y cc nL ret G R A Q mc ms pc lv st M := jj_go (fun _ _ _ _ _ _ _ _ _ _ _ _ _ _ hx hb hl w => lv_aload_n hx hb hd rfl (lv_at hl i hi) w) k
theorem jj_aload {n : Nat} {x : Nat} (i : Nat) (hd : decode cc pc = .ok (.aload n, 2)) (hi : lv[i]? = some (n, .ref x)) (k : jj_ l y cc nL ret G R A Q mc ms (pc + 2) lv (.ref x :: st) M) : jj_ l y cc nL ret G R A Q mc ms pc lv st M := jj_go (fun _ _ _ _ _ _ _ _ _ _ _ _ _ _ hx hb hl w => lv_aload hx hb hd (lv_at hl i hi) w) k
theorem jj_aload_nN {k4 : Fin 4} (i : Nat) (hd : decode cc pc = .ok (.aload_n k4, 1)) (hi : lv[i]? = some (k4.val, .null)) (k : jj_ l y cc nL ret G R A Q mc ms (pc + 1) lv (.null :: st) M) : jj_ l y cc nL ret G R A Q mc ms pc lv st M := jj_go (fun _ _ _ _ _ _ _ _ _ _ _ _ _ _ hx hb hl w => lv_aload_nN hx hb hd rfl (lv_at hl i hi) w) k
theorem jj_aloadN {n : Nat} (i : Nat) (hd : decode cc pc = .ok (.aload n, 2)) (hi : lv[i]? = some (n, .null)) (k : jj_ l y cc nL ret G R A Q mc ms (pc + 2) lv (.null :: st) M) : jj_ l y cc nL ret G R A Q mc ms pc lv st M := jj_go (fun _ _ _ _ _ _ _ _ _ _ _ _ _ _ hx hb hl w => lv_aloadN hx hb hd (lv_at hl i hi) w) k
theorem jj_iadd {x z : Int32} (hd : decode cc pc = .ok (.iadd, 1))  (k : jj_ l y cc nL ret G R A Q mc ms (pc + 1) lv (.int (x + z) :: st) M) : jj_ l y cc nL ret G R A Q mc ms pc lv (.int z :: .int x :: st) M := jj_go (fun _ _ _ _ _ _ _ _ _ _ _ _ _ _ hx hb hl w => lv_iadd hx hb hd w) k
theorem jj_isub {x z : Int32} (hd : decode cc pc = .ok (.isub, 1))  (k : jj_ l y cc nL ret G R A Q mc ms (pc + 1) lv (.int (x - z) :: st) M) : jj_ l y cc nL ret G R A Q mc ms pc lv (.int z :: .int x :: st) M := jj_go (fun _ _ _ _ _ _ _ _ _ _ _ _ _ _ hx hb hl w => lv_isub hx hb hd w) k
theorem jj_imul {x z : Int32} (hd : decode cc pc = .ok (.imul, 1))  (k : jj_ l y cc nL ret G R A Q mc ms (pc + 1) lv (.int (x * z) :: st) M) : jj_ l y cc nL ret G R A Q mc ms pc lv (.int z :: .int x :: st) M := jj_go (fun _ _ _ _ _ _ _ _ _ _ _ _ _ _ hx hb hl w => lv_imul hx hb hd w) k
theorem jj_iand {x z : Int32} (hd : decode cc pc = .ok (.iand, 1))  (k : jj_ l y cc nL ret G R A Q mc ms (pc + 1) lv (.int (x &&& z) :: st) M) : jj_ l y cc nL ret G R A Q mc ms pc lv (.int z :: .int x :: st) M := jj_go (fun _ _ _ _ _ _ _ _ _ _ _ _ _ _ hx hb hl w => lv_iand hx hb hd w) k
theorem jj_ior {x z : Int32} (hd : decode cc pc = .ok (.ior, 1))  (k : jj_ l y cc nL ret G R A Q mc ms (pc + 1) lv (.int (x ||| z) :: st) M) : jj_ l y cc nL ret G R A Q mc ms pc lv (.int z :: .int x :: st) M := jj_go (fun _ _ _ _ _ _ _ _ _ _ _ _ _ _ hx hb hl w => lv_ior hx hb hd w) k
theorem jj_ixor {x z : Int32} (hd : decode cc pc = .ok (.ixor, 1))  (k : jj_ l y cc nL ret G R A Q mc ms (pc + 1) lv (.int (x ^^^ z) :: st) M) : jj_ l y cc nL ret G R A Q mc ms pc lv (.int z :: .int x :: st) M := jj_go (fun _ _ _ _ _ _ _ _ _ _ _ _ _ _ hx hb hl w => lv_ixor hx hb hd w) k
theorem jj_ishl {x z : Int32} (hd : decode cc pc = .ok (.ishl, 1))  (k : jj_ l y cc nL ret G R A Q mc ms (pc + 1) lv (.int (x <<< (z &&& 31)) :: st) M) : jj_ l y cc nL ret G R A Q mc ms pc lv (.int z :: .int x :: st) M := jj_go (fun _ _ _ _ _ _ _ _ _ _ _ _ _ _ hx hb hl w => lv_ishl hx hb hd w) k
theorem jj_ishr {x z : Int32} (hd : decode cc pc = .ok (.ishr, 1))  (k : jj_ l y cc nL ret G R A Q mc ms (pc + 1) lv (.int (x >>> (z &&& 31)) :: st) M) : jj_ l y cc nL ret G R A Q mc ms pc lv (.int z :: .int x :: st) M := jj_go (fun _ _ _ _ _ _ _ _ _ _ _ _ _ _ hx hb hl w => lv_ishr hx hb hd w) k
theorem jj_idiv {x z : Int32} (hd : decode cc pc = .ok (.idiv, 1)) (hne : ¬ z = 0) (k : jj_ l y cc nL ret G R A Q mc ms (pc + 1) lv (.int (x / z) :: st) M) : jj_ l y cc nL ret G R A Q mc ms pc lv (.int z :: .int x :: st) M := jj_go (fun _ _ _ _ _ _ _ _ _ _ _ _ _ _ hx hb hl w => lv_idiv hx hb hd hne w) k
theorem jj_i2l {x : Int32} (hd : decode cc pc = .ok (.i2l, 1))  (k : jj_ l y cc nL ret G R A Q mc ms (pc + 1) lv (.long x.toInt64 :: st) M) : jj_ l y cc nL ret G R A Q mc ms pc lv (.int x :: st) M := jj_go (fun _ _ _ _ _ _ _ _ _ _ _ _ _ _ hx hb hl w => lv_i2l hx hb hd rfl w) k
theorem jj_lcmp {x z : Int64} (hd : decode cc pc = .ok (.lcmp, 1))  (k : jj_ l y cc nL ret G R A Q mc ms (pc + 1) lv (.int (lg_cmp x z) :: st) M) : jj_ l y cc nL ret G R A Q mc ms pc lv (.long z :: .long x :: st) M := jj_go (fun _ _ _ _ _ _ _ _ _ _ _ _ _ _ hx hb hl w => W.lcmp hx hb hd w) k
theorem jj_dup {va : Value} (hd : decode cc pc = .ok (.dup, 1)) (hva : va.category = 1) (k : jj_ l y cc nL ret G R A Q mc ms (pc + 1) lv (va :: va :: st) M) : jj_ l y cc nL ret G R A Q mc ms pc lv (va :: st) M := jj_go (fun _ _ _ _ _ _ _ _ _ _ _ _ _ _ hx hb hl w => lv_dup hx hb hd hva w) k
theorem jj_pop {va : Value} (hd : decode cc pc = .ok (.pop, 1)) (hva : va.category = 1) (k : jj_ l y cc nL ret G R A Q mc ms (pc + 1) lv st M) : jj_ l y cc nL ret G R A Q mc ms pc lv (va :: st) M := jj_go (fun _ _ _ _ _ _ _ _ _ _ _ _ _ _ hx hb hl w => lv_pop hx hb hd hva w) k
theorem jj_dup_x1 {va vb : Value} (hd : decode cc pc = .ok (.dup_x1, 1)) (hva : va.category = 1) (hvb : vb.category = 1) (k : jj_ l y cc nL ret G R A Q mc ms (pc + 1) lv (va :: vb :: va :: st) M) : jj_ l y cc nL ret G R A Q mc ms pc lv (va :: vb :: st) M := jj_go (fun _ _ _ _ _ _ _ _ _ _ _ _ _ _ hx hb hl w => lv_dup_x1 hx hb hd hva hvb w) k
theorem jj_dup_x2 {va vb vd : Value} (hd : decode cc pc = .ok (.dup_x2, 1)) (hva : va.category = 1) (hvb : vb.category = 1) (hvd : vd.category = 1) (k : jj_ l y cc nL ret G R A Q mc ms (pc + 1) lv (va :: vb :: vd :: va :: st) M) : jj_ l y cc nL ret G R A Q mc ms pc lv (va :: vb :: vd :: st) M := jj_go (fun _ _ _ _ _ _ _ _ _ _ _ _ _ _ hx hb hl w => lv_dup_x2 hx hb hd hva hvb hvd w) k
theorem jj_dup2 {va vb : Value} (hd : decode cc pc = .ok (.dup2, 1)) (hva : va.category = 1) (hvb : vb.category = 1) (k : jj_ l y cc nL ret G R A Q mc ms (pc + 1) lv (va :: vb :: va :: vb :: st) M) : jj_ l y cc nL ret G R A Q mc ms pc lv (va :: vb :: st) M := jj_go (fun _ _ _ _ _ _ _ _ _ _ _ _ _ _ hx hb hl w => lv_dup2_11 hx hb hd hva hvb w) k
theorem jj_goto {off : Int} {tgt : Nat} (hd : decode cc pc = .ok (.goto off, 3)) (ht : (pc : Int) + off = (tgt : Int)) (k : jj_ l y cc nL ret G R A Q mc ms tgt lv st M) : jj_ l y cc nL ret G R A Q mc ms pc lv st M := jj_go (fun _ _ _ _ _ _ _ _ _ _ _ _ _ _ hx hb hl w => lv_goto hx hb hd ht w) k
theorem jj_ifnonnull {x : Nat} {off : Int} {tgt : Nat} (hd : decode cc pc = .ok (.ifnonnull off, 3)) (ht : (pc : Int) + off = (tgt : Int)) (k : jj_ l y cc nL ret G R A Q mc ms tgt lv st M) : jj_ l y cc nL ret G R A Q mc ms pc lv (.ref x :: st) M := jj_go (fun _ _ _ _ _ _ _ _ _ _ _ _ _ _ hx hb hl w => lv_ifnonnull hx hb hd ht w) k
theorem jj_ifnonnullN {off : Int} (hd : decode cc pc = .ok (.ifnonnull off, 3)) (k : jj_ l y cc nL ret G R A Q mc ms (pc + 3) lv st M) : jj_ l y cc nL ret G R A Q mc ms pc lv (.null :: st) M := jj_go (fun _ _ _ _ _ _ _ _ _ _ _ _ _ _ hx hb hl w => lv_ifnonnullN hx hb hd w) k
theorem jj_ifnull {x : Nat} {off : Int} (hd : decode cc pc = .ok (.ifnull off, 3)) (k : jj_ l y cc nL ret G R A Q mc ms (pc + 3) lv st M) : jj_ l y cc nL ret G R A Q mc ms pc lv (.ref x :: st) M := jj_go (fun _ _ _ _ _ _ _ _ _ _ _ _ _ _ hx hb hl w => lv_ifnull hx hb hd w) k
theorem jj_ifnullN {off : Int} {tgt : Nat} (hd : decode cc pc = .ok (.ifnull off, 3)) (ht : (pc : Int) + off = (tgt : Int)) (k : jj_ l y cc nL ret G R A Q mc ms tgt lv st M) : jj_ l y cc nL ret G R A Q mc ms pc lv (.null :: st) M := jj_go (fun _ _ _ _ _ _ _ _ _ _ _ _ _ _ hx hb hl w => lv_ifnullN hx hb hd ht w) k
theorem jj_if_eq {x : Int32} {off : Int} {tgt : Nat} (hd : decode cc pc = .ok (.ifCond .eq off, 3)) (ht : (pc : Int) + off = (tgt : Int)) (kt : x = 0 → jj_ l y cc nL ret G R A Q mc ms tgt lv st M) (kf : ¬ x = 0 → jj_ l y cc nL ret G R A Q mc ms (pc + 3) lv st M) : jj_ l y cc nL ret G R A Q mc ms pc lv (.int x :: st) M := by
  intro p e s m args below meth c H locs cells slots ls hE hH hl hL hr
  exact lv_if_eq hE.1 hE.2.1 hd ht (fun h => kt h p e s m args below meth c H locs cells slots ls hE hH hl hL hr) (fun h => kf h p e s m args below meth c H locs cells slots ls hE hH hl hL hr)
theorem jj_icmp_eq {x z : Int32} {off : Int} {tgt : Nat} (hd : decode cc pc = .ok (.if_icmp .eq off, 3)) (ht : (pc : Int) + off = (tgt : Int)) (kt : x = z → jj_ l y cc nL ret G R A Q mc ms tgt lv st M) (kf : ¬ x = z → jj_ l y cc nL ret G R A Q mc ms (pc + 3) lv st M) : jj_ l y cc nL ret G R A Q mc ms pc lv (.int z :: .int x :: st) M := by
  intro p e s m args below meth c H locs cells slots ls hE hH hl hL hr
  exact lv_icmp_eq hE.1 hE.2.1 hd ht (fun h => kt h p e s m args below meth c H locs cells slots ls hE hH hl hL hr) (fun h => kf h p e s m args below meth c H locs cells slots ls hE hH hl hL hr)
theorem jj_if_ne {x : Int32} {off : Int} {tgt : Nat} (hd : decode cc pc = .ok (.ifCond .ne off, 3)) (ht : (pc : Int) + off = (tgt : Int)) (kt : ¬ x = 0 → jj_ l y cc nL ret G R A Q mc ms tgt lv st M) (kf : x = 0 → jj_ l y cc nL ret G R A Q mc ms (pc + 3) lv st M) : jj_ l y cc nL ret G R A Q mc ms pc lv (.int x :: st) M := by
  intro p e s m args below meth c H locs cells slots ls hE hH hl hL hr
  exact lv_if_ne hE.1 hE.2.1 hd ht (fun h => kt h p e s m args below meth c H locs cells slots ls hE hH hl hL hr) (fun h => kf h p e s m args below meth c H locs cells slots ls hE hH hl hL hr)
theorem jj_icmp_ne {x z : Int32} {off : Int} {tgt : Nat} (hd : decode cc pc = .ok (.if_icmp .ne off, 3)) (ht : (pc : Int) + off = (tgt : Int)) (kt : ¬ x = z → jj_ l y cc nL ret G R A Q mc ms tgt lv st M) (kf : x = z → jj_ l y cc nL ret G R A Q mc ms (pc + 3) lv st M) : jj_ l y cc nL ret G R A Q mc ms pc lv (.int z :: .int x :: st) M := by
  intro p e s m args below meth c H locs cells slots ls hE hH hl hL hr
  exact lv_icmp_ne hE.1 hE.2.1 hd ht (fun h => kt h p e s m args below meth c H locs cells slots ls hE hH hl hL hr) (fun h => kf h p e s m args below meth c H locs cells slots ls hE hH hl hL hr)
theorem jj_if_lt {x : Int32} {off : Int} {tgt : Nat} (hd : decode cc pc = .ok (.ifCond .lt off, 3)) (ht : (pc : Int) + off = (tgt : Int)) (kt : x < 0 → jj_ l y cc nL ret G R A Q mc ms tgt lv st M) (kf : ¬ x < 0 → jj_ l y cc nL ret G R A Q mc ms (pc + 3) lv st M) : jj_ l y cc nL ret G R A Q mc ms pc lv (.int x :: st) M := by
  intro p e s m args below meth c H locs cells slots ls hE hH hl hL hr
  exact lv_if_lt hE.1 hE.2.1 hd ht (fun h => kt h p e s m args below meth c H locs cells slots ls hE hH hl hL hr) (fun h => kf h p e s m args below meth c H locs cells slots ls hE hH hl hL hr)
theorem jj_icmp_lt {x z : Int32} {off : Int} {tgt : Nat} (hd : decode cc pc = .ok (.if_icmp .lt off, 3)) (ht : (pc : Int) + off = (tgt : Int)) (kt : x < z → jj_ l y cc nL ret G R A Q mc ms tgt lv st M) (kf : ¬ x < z → jj_ l y cc nL ret G R A Q mc ms (pc + 3) lv st M) : jj_ l y cc nL ret G R A Q mc ms pc lv (.int z :: .int x :: st) M := by
  intro p e s m args below meth c H locs cells slots ls hE hH hl hL hr
  exact lv_icmp_lt hE.1 hE.2.1 hd ht (fun h => kt h p e s m args below meth c H locs cells slots ls hE hH hl hL hr) (fun h => kf h p e s m args below meth c H locs cells slots ls hE hH hl hL hr)
theorem jj_if_ge {x : Int32} {off : Int} {tgt : Nat} (hd : decode cc pc = .ok (.ifCond .ge off, 3)) (ht : (pc : Int) + off = (tgt : Int)) (kt : 0 ≤ x → jj_ l y cc nL ret G R A Q mc ms tgt lv st M) (kf : ¬ 0 ≤ x → jj_ l y cc nL ret G R A Q mc ms (pc + 3) lv st M) : jj_ l y cc nL ret G R A Q mc ms pc lv (.int x :: st) M := by
  intro p e s m args below meth c H locs cells slots ls hE hH hl hL hr
  exact lv_if_ge hE.1 hE.2.1 hd ht (fun h => kt h p e s m args below meth c H locs cells slots ls hE hH hl hL hr) (fun h => kf h p e s m args below meth c H locs cells slots ls hE hH hl hL hr)
theorem jj_icmp_ge {x z : Int32} {off : Int} {tgt : Nat} (hd : decode cc pc = .ok (.if_icmp .ge off, 3)) (ht : (pc : Int) + off = (tgt : Int)) (kt : z ≤ x → jj_ l y cc nL ret G R A Q mc ms tgt lv st M) (kf : ¬ z ≤ x → jj_ l y cc nL ret G R A Q mc ms (pc + 3) lv st M) : jj_ l y cc nL ret G R A Q mc ms pc lv (.int z :: .int x :: st) M := by
  intro p e s m args below meth c H locs cells slots ls hE hH hl hL hr
  exact lv_icmp_ge hE.1 hE.2.1 hd ht (fun h => kt h p e s m args below meth c H locs cells slots ls hE hH hl hL hr) (fun h => kf h p e s m args below meth c H locs cells slots ls hE hH hl hL hr)
theorem jj_if_gt {x : Int32} {off : Int} {tgt : Nat} (hd : decode cc pc = .ok (.ifCond .gt off, 3)) (ht : (pc : Int) + off = (tgt : Int)) (kt : 0 < x → jj_ l y cc nL ret G R A Q mc ms tgt lv st M) (kf : ¬ 0 < x → jj_ l y cc nL ret G R A Q mc ms (pc + 3) lv st M) : jj_ l y cc nL ret G R A Q mc ms pc lv (.int x :: st) M := by
  intro p e s m args below meth c H locs cells slots ls hE hH hl hL hr
  exact lv_if_gt hE.1 hE.2.1 hd ht (fun h => kt h p e s m args below meth c H locs cells slots ls hE hH hl hL hr) (fun h => kf h p e s m args below meth c H locs cells slots ls hE hH hl hL hr)
theorem jj_icmp_gt {x z : Int32} {off : Int} {tgt : Nat} (hd : decode cc pc = .ok (.if_icmp .gt off, 3)) (ht : (pc : Int) + off = (tgt : Int)) (kt : z < x → jj_ l y cc nL ret G R A Q mc ms tgt lv st M) (kf : ¬ z < x → jj_ l y cc nL ret G R A Q mc ms (pc + 3) lv st M) : jj_ l y cc nL ret G R A Q mc ms pc lv (.int z :: .int x :: st) M := by
  intro p e s m args below meth c H locs cells slots ls hE hH hl hL hr
  exact lv_icmp_gt hE.1 hE.2.1 hd ht (fun h => kt h p e s m args below meth c H locs cells slots ls hE hH hl hL hr) (fun h => kf h p e s m args below meth c H locs cells slots ls hE hH hl hL hr)
theorem jj_if_le {x : Int32} {off : Int} {tgt : Nat} (hd : decode cc pc = .ok (.ifCond .le off, 3)) (ht : (pc : Int) + off = (tgt : Int)) (kt : x ≤ 0 → jj_ l y cc nL ret G R A Q mc ms tgt lv st M) (kf : ¬ x ≤ 0 → jj_ l y cc nL ret G R A Q mc ms (pc + 3) lv st M) : jj_ l y cc nL ret G R A Q mc ms pc lv (.int x :: st) M := by
  intro p e s m args below meth c H locs cells slots ls hE hH hl hL hr
  exact lv_if_le hE.1 hE.2.1 hd ht (fun h => kt h p e s m args below meth c H locs cells slots ls hE hH hl hL hr) (fun h => kf h p e s m args below meth c H locs cells slots ls hE hH hl hL hr)
theorem jj_icmp_le {x z : Int32} {off : Int} {tgt : Nat} (hd : decode cc pc = .ok (.if_icmp .le off, 3)) (ht : (pc : Int) + off = (tgt : Int)) (kt : x ≤ z → jj_ l y cc nL ret G R A Q mc ms tgt lv st M) (kf : ¬ x ≤ z → jj_ l y cc nL ret G R A Q mc ms (pc + 3) lv st M) : jj_ l y cc nL ret G R A Q mc ms pc lv (.int z :: .int x :: st) M := by
  intro p e s m args below meth c H locs cells slots ls hE hH hl hL hr
  exact lv_icmp_le hE.1 hE.2.1 hd ht (fun h => kt h p e s m args below meth c H locs cells slots ls hE hH hl hL hr) (fun h => kf h p e s m args below meth c H locs cells slots ls hE hH hl hL hr)
theorem jj_acmp_eq (rx ry : Option Nat) {off : Int} {tgt : Nat} (hd : decode cc pc = .ok (.if_acmp .eq off, 3)) (ht : (pc : Int) + off = (tgt : Int)) (kt : rx = ry → jj_ l y cc nL ret G R A Q mc ms tgt lv st M) (kf : ¬ rx = ry → jj_ l y cc nL ret G R A Q mc ms (pc + 3) lv st M) : jj_ l y cc nL ret G R A Q mc ms pc lv (va_rf ry :: va_rf rx :: st) M := by
  intro p e s m args below meth c H locs cells slots ls hE hH hl hL hr
  exact lv_acmp_eq hE.1 hE.2.1 hd ht (fun h => kt h p e s m args below meth c H locs cells slots ls hE hH hl hL hr) (fun h => kf h p e s m args below meth c H locs cells slots ls hE hH hl hL hr)
theorem jj_acmp_ne (rx ry : Option Nat) {off : Int} {tgt : Nat} (hd : decode cc pc = .ok (.if_acmp .ne off, 3)) (ht : (pc : Int) + off = (tgt : Int)) (kt : ¬ rx = ry → jj_ l y cc nL ret G R A Q mc ms tgt lv st M) (kf : rx = ry → jj_ l y cc nL ret G R A Q mc ms (pc + 3) lv st M) : jj_ l y cc nL ret G R A Q mc ms pc lv (va_rf ry :: va_rf rx :: st) M := by
  intro p e s m args below meth c H locs cells slots ls hE hH hl hL hr
  exact lv_acmp_ne hE.1 hE.2.1 hd ht (fun h => kt h p e s m args below meth c H locs cells slots ls hE hH hl hL hr) (fun h => kf h p e s m args below meth c H locs cells slots ls hE hH hl hL hr)
theorem jj_onR {r : Option Nat} (kn : r = none → jj_ l y cc nL ret G R A Q mc ms pc lv (.null :: st) M) (ks : ∀ x, r = some x → jj_ l y cc nL ret G R A Q mc ms pc lv (.ref x :: st) M) : jj_ l y cc nL ret G R A Q mc ms pc lv (va_rf r :: st) M := by
  cases r with
  | none => exact kn rfl
  | some x => exact ks x rfl
theorem jj_istore_n {k4 : Fin 4} {x : Int32} {lv' : List (Nat × Value)} (hd : decode cc pc = .ok (.istore_n k4, 1)) (hn : k4.val < nL) (hl' : (k4.val, Value.int x) :: lv.filter (fun q => !(q.1 == k4.val) && !(q.1 + 1 == k4.val && q.2.category == 2)) = lv') (k : jj_ l y cc nL ret G R A Q mc ms (pc + 1) lv' st M) : jj_ l y cc nL ret G R A Q mc ms pc lv (Value.int x :: st) M := by
  intro p e s m args below meth c H locs cells slots ls hE hH hl hL hr
  exact lv_istore_n hE.1 hE.2.1 hd rfl hl hn hl' (fun ls' h' => k p e s m args below meth c H locs cells slots ls' hE hH h' hL hr)
theorem jj_istore {n : Nat} {x : Int32} {lv' : List (Nat × Value)} (hd : decode cc pc = .ok (.istore n, 2)) (hn : n < nL) (hl' : (n, Value.int x) :: lv.filter (fun q => !(q.1 == n) && !(q.1 + 1 == n && q.2.category == 2)) = lv') (k : jj_ l y cc nL ret G R A Q mc ms (pc + 2) lv' st M) : jj_ l y cc nL ret G R A Q mc ms pc lv (Value.int x :: st) M := by
  intro p e s m args below meth c H locs cells slots ls hE hH hl hL hr
  exact lv_istore hE.1 hE.2.1 hd hl hn hl' (fun ls' h' => k p e s m args below meth c H locs cells slots ls' hE hH h' hL hr)
theorem jj_astore_n {k4 : Fin 4} {x : Nat} {lv' : List (Nat × Value)} (hd : decode cc pc = .ok (.astore_n k4, 1)) (hn : k4.val < nL) (hl' : (k4.val, Value.ref x) :: lv.filter (fun q => !(q.1 == k4.val) && !(q.1 + 1 == k4.val && q.2.category == 2)) = lv') (k : jj_ l y cc nL ret G R A Q mc ms (pc + 1) lv' st M) : jj_ l y cc nL ret G R A Q mc ms pc lv (Value.ref x :: st) M := by
  intro p e s m args below meth c H locs cells slots ls hE hH hl hL hr
  exact lv_astore_n hE.1 hE.2.1 hd rfl hl hn hl' (fun ls' h' => k p e s m args below meth c H locs cells slots ls' hE hH h' hL hr)
theorem jj_astore {n : Nat} {x : Nat} {lv' : List (Nat × Value)} (hd : decode cc pc = .ok (.astore n, 2)) (hn : n < nL) (hl' : (n, Value.ref x) :: lv.filter (fun q => !(q.1 == n) && !(q.1 + 1 == n && q.2.category == 2)) = lv') (k : jj_ l y cc nL ret G R A Q mc ms (pc + 2) lv' st M) : jj_ l y cc nL ret G R A Q mc ms pc lv (Value.ref x :: st) M := by
  intro p e s m args below meth c H locs cells slots ls hE hH hl hL hr
  exact lv_astore hE.1 hE.2.1 hd hl hn hl' (fun ls' h' => k p e s m args below meth c H locs cells slots ls' hE hH h' hL hr)
theorem jj_astore_nN {k4 : Fin 4} {lv' : List (Nat × Value)} (hd : decode cc pc = .ok (.astore_n k4, 1)) (hn : k4.val < nL) (hl' : (k4.val, Value.null) :: lv.filter (fun q => !(q.1 == k4.val) && !(q.1 + 1 == k4.val && q.2.category == 2)) = lv') (k : jj_ l y cc nL ret G R A Q mc ms (pc + 1) lv' st M) : jj_ l y cc nL ret G R A Q mc ms pc lv (Value.null :: st) M := by
  intro p e s m args below meth c H locs cells slots ls hE hH hl hL hr
  exact lv_astore_nN hE.1 hE.2.1 hd rfl hl hn hl' (fun ls' h' => k p e s m args below meth c H locs cells slots ls' hE hH h' hL hr)
theorem jj_astoreN {n : Nat} {lv' : List (Nat × Value)} (hd : decode cc pc = .ok (.astore n, 2)) (hn : n < nL) (hl' : (n, Value.null) :: lv.filter (fun q => !(q.1 == n) && !(q.1 + 1 == n && q.2.category == 2)) = lv') (k : jj_ l y cc nL ret G R A Q mc ms (pc + 2) lv' st M) : jj_ l y cc nL ret G R A Q mc ms pc lv (Value.null :: st) M := by
  intro p e s m args below meth c H locs cells slots ls hE hH hl hL hr
  exact lv_astoreN hE.1 hE.2.1 hd hl hn hl' (fun ls' h' => k p e s m args below meth c H locs cells slots ls' hE hH h' hL hr)
theorem jj_iinc {i : Nat} (k0 : Nat) {n : Int} {x v : Int32} {lv' : List (Nat × Value)} (hd : decode cc pc = .ok (.iinc i n, 3)) (hk : lv[k0]? = some (i, .int x)) (hv : x + Int32.ofInt n = v) (hn : i < nL) (hl' : (i, Value.int v) :: lv.filter (fun q => !(q.1 == i) && !(q.1 + 1 == i && q.2.category == 2)) = lv') (k : jj_ l y cc nL ret G R A Q mc ms (pc + 3) lv' st M) : jj_ l y cc nL ret G R A Q mc ms pc lv st M := by
  intro p e s m args below meth c H locs cells slots ls hE hH hl hL hr
  exact lv_iinc hE.1 hE.2.1 hd hl hk hv hn hl' (fun ls' h' => k p e s m args below meth c H locs cells slots ls' hE hH h' hL hr)
theorem jj_sub (ks : List Nat) {lv' : List (Nat × Value)} (hp : lv_pick lv ks = lv') (k : jj_ l y cc nL ret G R A Q mc ms pc lv' st M) : jj_ l y cc nL ret G R A Q mc ms pc lv st M := by
  intro p e s m args below meth c H locs cells slots ls hE hH hl hL hr
  exact k p e s m args below meth c H locs cells slots ls hE hH (lv_sub hl ks hp) hL hr
theorem jj_lookup {dflt : Int} {ps : Array (Int × Int)} {len : Nat} {x : Int32} {off : Int} {tgt : Nat} (hd : decode cc pc = .ok (.lookupswitch dflt ps, len)) (hp : (ps.toList.zip (ps.toList.drop 1)).all (fun (a, next) => a.1 < next.1) = true) (ho : Op.lookupswitch.offset ps.toList dflt x.toInt = off) (ht : (pc : Int) + off = (tgt : Int)) (k : jj_ l y cc nL ret G R A Q mc ms tgt lv st M) : jj_ l y cc nL ret G R A Q mc ms pc lv (.int x :: st) M := jj_go (fun _ _ _ _ _ _ _ _ _ _ _ _ _ _ hx hb hl w => lv_lookup hx hb hd hp ho ht w) k
theorem jj_tableOut {dflt lo hi : Int} {offs : Array Int} {len : Nat} {x : Int32} {tgt : Nat} (hd : decode cc pc = .ok (.tableswitch dflt lo hi offs, len)) (h : x.toInt < lo ∨ hi < x.toInt) (ht : (pc : Int) + dflt = (tgt : Int)) (k : jj_ l y cc nL ret G R A Q mc ms tgt lv st M) : jj_ l y cc nL ret G R A Q mc ms pc lv (.int x :: st) M := jj_go (fun _ _ _ _ _ _ _ _ _ _ _ _ _ _ hx hb hl w => lv_tableOut hx hb hd h ht w) k
theorem jj_tableIn {dflt lo hi : Int} {offs : Array Int} {len : Nat} {x : Int32} {off : Int} {tgt : Nat} (hd : decode cc pc = .ok (.tableswitch dflt lo hi offs, len)) (h1 : ¬ x.toInt < lo) (h2 : ¬ hi < x.toInt) (ho : offs[(x.toInt - lo).toNat]? = some off) (ht : (pc : Int) + off = (tgt : Int)) (k : jj_ l y cc nL ret G R A Q mc ms tgt lv st M) : jj_ l y cc nL ret G R A Q mc ms pc lv (.int x :: st) M := jj_go (fun _ _ _ _ _ _ _ _ _ _ _ _ _ _ hx hb hl w => lv_tableIn hx hb hd h1 h2 ho ht w) k
theorem jj_topi {x : Int32} (k : ∀ v : Int32, v = x → jj_ l y cc nL ret G R A Q mc ms pc lv (.int v :: st) M) : jj_ l y cc nL ret G R A Q mc ms pc lv (.int x :: st) M := k x rfl
theorem jj_iret {x : Int32} {ty : FieldType} (hd : decode cc pc = .ok (.ireturn, 1)) (hr0 : ret = some ty) (hn : narrow ty (.int x) = .int x) (hq : Q (.inl (some (.int x))) M) : jj_ l y cc nL ret G R A Q mc ms pc lv [.int x] M := by
  intro p e s m args below meth c H locs cells slots ls hE hH hl hL hr
  obtain ⟨hx, hb, hml, hown, hts, hK, hret, hlk, hnm, hnd, hA⟩ := hE
  obtain ⟨hr1, hr2⟩ := hr
  refine W.widen (k := R.cells) (n := R.slots) (by omega) (by omega) (mm_mono (fun t ht => mm_X.of ht) ?_)
  exact W.zret hx hb (hret.trans hr0) hn (fun t ht hW => ⟨.inl (some (.int x)), M, rfl, hq, by rw [ht]; exact hH, by rw [ht]; exact hL.2.2, hL.2.1⟩) hL.1 hd hlk
theorem jj_vret  (hd : decode cc pc = .ok (.return_, 1)) (hr0 : ret = none) (hq : Q (.inl none) M) : jj_ l y cc nL ret G R A Q mc ms pc lv [] M := by
  intro p e s m args below meth c H locs cells slots ls hE hH hl hL hr
  obtain ⟨hx, hb, hml, hown, hts, hK, hret, hlk, hnm, hnd, hA⟩ := hE
  obtain ⟨hr1, hr2⟩ := hr
  refine W.widen (k := R.cells) (n := R.slots) (by omega) (by omega) (mm_mono (fun t ht => mm_X.of ht) ?_)
  exact W.vret hx hb (hret.trans hr0) (fun t ht hW => ⟨.inl none, M, rfl, hq, by rw [ht]; exact hH, by rw [ht]; exact hL.2.2, hL.2.1⟩) hL.1 hd hlk
theorem jj_aret {v : Value} {rt : FieldType} (hd : decode cc pc = .ok (.areturn, 1)) (hr0 : ret = some rt) (hrt : (∃ n, rt = .object n) ∨ ∃ t, rt = .array t) (hv : v = .null ∨ ∃ a, v = .ref a) (hq : Q (.inl (some v)) M) : jj_ l y cc nL ret G R A Q mc ms pc lv [v] M := by
  intro p e s m args below meth c H locs cells slots ls hE hH hl hL hr
  obtain ⟨hx, hb, hml, hown, hts, hK, hret, hlk, hnm, hnd, hA⟩ := hE
  obtain ⟨hr1, hr2⟩ := hr
  refine W.widen (k := R.cells) (n := R.slots) (by omega) (by omega) (mm_mono (fun t ht => mm_X.of ht) ?_)
  exact W.aret hx hb (hret.trans hr0) hrt hv (fun t ht hW => ⟨.inl (some v), M, rfl, hq, by rw [ht]; exact hH, by rw [ht]; exact hL.2.2, hL.2.1⟩) hL.1 hd hlk
end JJ
end
section
def mm_Fl (own : String) (idx ci k : Nat) : Prop :=
  ci < 8 ∧ k < nn_N ci ∧ (Cond.fieldLink own idx (nn_T ci k).1 (nn_T ci k).2.1 (nn_T ci k).2.2.1 ∈ nn_TS ∨ ∃ host, Cond.fieldLinkNest own idx (nn_T ci k).1 (nn_T ci k).2.1 (nn_T ci k).2.2.1 host ∈ nn_NS)
def mm_Ff (own : String) (idx ci k : Nat) : Prop :=
  ci < 8 ∧ k < nn_N ci ∧ Cond.fieldLink own idx (nn_T ci k).1 (nn_T ci k).2.1 (nn_T ci k).2.2.1 ∈ nn_TS ∧ (nn_T ci k).2.2.2 = true ∧ (nn_T ci k).1 = own
theorem mm_e_si {G : mm_G} {M : mm_M} {a b k : Nat} {x : Int32} (hb : b ≠ a) (u : mm_K) : mm_e G (mm_si M a k x) b u = mm_e G M b u := by
  have f1 : mm_i (mm_si M a k x) b = mm_i M b := funext fun j => by rw [mm_i_si, if_neg (fun h => hb h.1)]
  cases u with
  | inl ci =>
    show Sum.inr (ci, mm_fs (mm_si M a k x) b ci) = Sum.inr (ci, mm_fs M b ci)
    have : mm_fs (mm_si M a k x) b ci = mm_fs M b ci := by
      unfold mm_fs mm_fv
      rw [f1]
      rfl
    rw [this]
  | inr q =>
    show Sum.inl (G.2.1 q.1, mm_ac (mm_si M a k x) b q.1 q.2) = Sum.inl (G.2.1 q.1, mm_ac M b q.1 q.2)
    have : mm_ac (mm_si M a k x) b q.1 q.2 = mm_ac M b q.1 q.2 := by
      unfold mm_ac
      rw [f1]
      rfl
    rw [this]
theorem mm_e_sr {G : mm_G} {M : mm_M} {a b k : Nat} {x : Option Nat} (hb : b ≠ a) (u : mm_K) : mm_e G (mm_sr M a k x) b u = mm_e G M b u := by
  have f1 : mm_r (mm_sr M a k x) b = mm_r M b := funext fun j => by rw [mm_r_sr, if_neg (fun h => hb h.1)]
  cases u with
  | inl ci =>
    show Sum.inr (ci, mm_fs (mm_sr M a k x) b ci) = Sum.inr (ci, mm_fs M b ci)
    have : mm_fs (mm_sr M a k x) b ci = mm_fs M b ci := by
      unfold mm_fs mm_fv
      rw [f1]
      rfl
    rw [this]
  | inr q =>
    show Sum.inl (G.2.1 q.1, mm_ac (mm_sr M a k x) b q.1 q.2) = Sum.inl (G.2.1 q.1, mm_ac M b q.1 q.2)
    have : mm_ac (mm_sr M a k x) b q.1 q.2 = mm_ac M b q.1 q.2 := by
      unfold mm_ac
      rw [f1]
      rfl
    rw [this]
theorem mm_e_sl {G : mm_G} {M : mm_M} {a b k : Nat} {x : Int64} (hb : b ≠ a) (u : mm_K) : mm_e G (mm_sl M a k x) b u = mm_e G M b u := by
  have f1 : mm_l (mm_sl M a k x) b = mm_l M b := funext fun j => by rw [mm_l_sl, if_neg (fun h => hb h.1)]
  cases u with
  | inl ci => rfl
  | inr q =>
    show Sum.inl (G.2.1 q.1, mm_ac (mm_sl M a k x) b q.1 q.2) = Sum.inl (G.2.1 q.1, mm_ac M b q.1 q.2)
    have : mm_ac (mm_sl M a k x) b q.1 q.2 = mm_ac M b q.1 q.2 := by
      unfold mm_ac
      rw [f1]
      rfl
    rw [this]
section JM
variable {l : Launch} {y : MethodName} {cc : ByteArray} {nL : Nat} {ret : Option FieldType} {G : mm_G} {R : Room} {A : Nat → Prop} {Q : mm_O → mm_M → Prop} {mc ms pc : Nat} {lv : List (Nat × Value)} {st : List Value} {M : mm_M}
theorem jj_get {a ci idx k : Nat} {v : Value} (hd : decode cc pc = .ok (.getfield idx, 3)) (hf : mm_Fl y.cls idx ci k) (hk : mm_k M a = some (.inl ci)) (hv : mm_fv M a (nn_t ci k) k = v) (kk : jj_ l y cc nL ret G R A Q mc ms (pc + 3) lv (v :: st) M) : jj_ l y cc nL ret G R A Q mc ms pc lv (.ref a :: st) M := by
  obtain ⟨h8, hkN, hw⟩ := hf
  intro p e s m args below meth c H locs cells slots ls hE hH hl hL hr
  have w := kk p e s m args below meth c H locs cells slots ls hE hH hl hL hr
  obtain ⟨hx, hb, hml, hown, hts, hK, -⟩ := hE
  have hvv : (mm_fs M a ci)[k]? = some v := by rw [mm_fsG hkN, hv]
  rcases hw with hw | ⟨host, hw⟩
  · exact va_get hx hb hts (nn_lay ci h8) hown hK.1 (hH.get hk) 0 rfl (mm_cl_at h8) k hkN (hts _ hw) (fun x h => h) hvv hd w
  · exact va_getN hx hb hts (nn_lay ci h8) hown hK.1 (hH.get hk) 0 rfl (mm_cl_at h8) k hkN (va_Nw.use rfl (hK.2.1 _ hw)) (fun x h => h) hvv hd w
theorem jj_geti {a ci idx k : Nat} (hd : decode cc pc = .ok (.getfield idx, 3)) (hf : mm_Fl y.cls idx ci k) (hk : mm_k M a = some (.inl ci)) (hv : ∀ M' : mm_M, mm_fv M' a (nn_t ci k) k = .int (mm_i M' a k)) (kk : jj_ l y cc nL ret G R A Q mc ms (pc + 3) lv (.int (mm_i M a k) :: st) M) : jj_ l y cc nL ret G R A Q mc ms pc lv (.ref a :: st) M :=
  jj_get hd hf hk (hv M) kk
theorem jj_getr {a ci idx k : Nat} (hd : decode cc pc = .ok (.getfield idx, 3)) (hf : mm_Fl y.cls idx ci k) (hk : mm_k M a = some (.inl ci)) (hv : ∀ M' : mm_M, mm_fv M' a (nn_t ci k) k = va_rf (mm_r M' a k)) (r : Option Nat) (hr : mm_r M a k = r) (kk : jj_ l y cc nL ret G R A Q mc ms (pc + 3) lv (va_rf r :: st) M) : jj_ l y cc nL ret G R A Q mc ms pc lv (.ref a :: st) M :=
  jj_get hd hf hk (by rw [hv M, hr]) kk
theorem jj_put0 {a ci idx k : Nat} {v : Value} {M' : mm_M} (hd : decode cc pc = .ok (.putfield idx, 3))
    (hf : (mm_Fl y.cls idx ci k ∧ (nn_T ci k).2.2.2 = false) ∨ (mm_Ff y.cls idx ci k ∧ y.name = "<init>")) (hk : mm_k M a = some (.inl ci)) (hn : narrow (nn_t ci k) v = v) (hfit : fits (nn_t ci k) v = true)
    (hw : ∀ b, mm_k M' b = mm_k M b) (ho : ∀ b, b ≠ a → ∀ u, mm_e G M' b u = mm_e G M b u) (hs : mm_fv M' a (nn_t ci k) k = v) (hj : ∀ j, j ≠ k → mm_fv M' a (nn_t ci j) j = mm_fv M a (nn_t ci j) j)
    (kk : jj_ l y cc nL ret G R A Q mc ms (pc + 3) lv st M') : jj_ l y cc nL ret G R A Q mc ms pc lv (v :: .ref a :: st) M := by
  have h8 : ci < 8 := by rcases hf with ⟨h, -⟩ | ⟨h, -⟩ <;> exact h.1
  have hkN : k < nn_N ci := by rcases hf with ⟨h, -⟩ | ⟨h, -⟩ <;> exact h.2.1
  intro p e s m args below meth c H locs cells slots ls hE hH hl hL hr
  have hE0 := hE
  obtain ⟨hx, hb, hml, hown, hts, hK, hret, hlk, hnm, hnd, hA⟩ := hE
  have hc := mm_cl_at h8
  have hap := va_apart (own := y.cls) hts (nn_lay ci h8) (nn_t ci) (nn_tok ci h8) (nn_nm ci h8) hK.1 hc
  have hat := hH.1 a _ hk
  obtain ⟨r, h1, cell, q1, q2, q3, q4⟩ := hat
  have hre : r = (nn_C ci, nn_T ci, nn_N ci) := Option.some.inj (h1.symm.trans hc)
  subst hre
  obtain ⟨hS, hfc, kC, hkC, hkind⟩ := hK.1.1 ci _ hc
  obtain ⟨cf, kf, fi, f, hi, hsl⟩ := hS k hkN
  have hst := (u_facts hfc hkC (u_lays hts (nn_lay ci h8) hkN) hi).1
  have hlt : f.slot < cell.slots.size := by rw [hsl]; exact k2_hasslot (q4 k hkN)
  have fin : ∀ H' : Heap, H'[a]? = some (cell.setSlot f.slot v) → H'.size = H.size → (∀ q, q ≠ a → H'[q]? = H[q]?) → W p l e R s m args below meth c H' (locs ++ [⟨a, f.slot⟩]) cells slots (mm_X below (mm_Q G Q A) args s R.cells R.slots A) (F0 m (pc + 3) ls st) := by
    intro H' e1 e2 e3
    rw [hsl] at e1
    refine kk p e s m args below meth c H' _ cells slots ls hE0 ?_ hl ⟨?_, fun q hq => ?_, by rw [e2]; exact hL.2.2⟩ hr
    · refine hH.put hk hw ho ⟨_, hc, t_OB.to (V := updV (vp_V (mm_fs M a ci)) k v) ⟨_, e1, q2, q3, t_set q4 hap hkN v⟩ (fun j hjN => ?_)⟩ e3
      show (if j = k then v else vp_V (mm_fs M a ci) j) = vp_V (mm_fs M' a ci) j
      rw [mm_fsV hjN, mm_fsV hjN]
      by_cases ej : j = k
      · subst ej
        rw [if_pos rfl, hs]
      · rw [if_neg ej, hj j ej]
    · intro q hq
      rcases List.mem_append.mp hq with h2 | h2
      · exact hL.1 q h2
      · rw [List.mem_singleton.mp h2]
        exact hL.2.1 a ⟨_, hk, rfl⟩
    · obtain ⟨t, ht, hro⟩ := hq
      exact hL.2.1 q ⟨t, by rw [← hw]; exact ht, hro⟩
  rcases hf with ⟨⟨-, -, hlk2⟩, hfin⟩ | ⟨⟨-, -, hlk2, hfin, hdecl⟩, hinit⟩
  · have hlay := hts _ (nn_lay ci h8 _ (u_in_lay hkN))
    unfold u_lay at hlay
    rw [if_neg (by rw [hfin]; decide)] at hlay
    have h6 := u_store hfc hkC hkind hlay hi (nn_tok ci h8 k hkN) hn hfit
    rcases hlk2 with hlk2 | ⟨host, hlk2⟩
    · exact W.putK hx hb (f := f) ⟨hown, hts _ hlk2, ⟨_, _, _, hi⟩, hst⟩ (by rw [q2]; exact h6) q1 q3 hlt rfl rfl hd fin
    · exact va_WputK hx hb (f := f) hown (va_Nw.use rfl (hK.2.1 _ hlk2)) hi hst (by rw [q2]; exact h6) q1 q3 hlt rfl rfl hd fin
  · have hlay := hts _ (nn_lay ci h8 _ (u_in_lay hkN))
    unfold u_lay at hlay
    rw [if_pos hfin] at hlay
    have hcf : m.cls = cf := by
      obtain ⟨_, _, c', _, _, _, -, -, hf', -, -, -, hown2, -⟩ := Cond.laysFinal_spec hlay
      have e1 : c' = cf := by have := hi.symm.trans hf'; simp at this; exact this.1.symm
      rw [hdecl] at hown2
      rw [← e1]; exact Option.some.inj (hown.symm.trans hown2)
    have h6 := u_fits hfc hkC hkind (Or.inr hlay) hi (nn_tok ci h8 k hkN) hn hfit
    exact W.putFinK hx hb hown (hts _ hlk2) hi hst hcf (hnm.trans hinit) (by rw [q2]; exact h6) q1 q3 hlt rfl rfl hd fin
theorem jj_puti {a ci idx k : Nat} {x : Int32} (hd : decode cc pc = .ok (.putfield idx, 3)) (hf : (mm_Fl y.cls idx ci k ∧ (nn_T ci k).2.2.2 = false) ∨ (mm_Ff y.cls idx ci k ∧ y.name = "<init>")) (hk : mm_k M a = some (.inl ci))
    (hv : ∀ M' : mm_M, mm_fv M' a (nn_t ci k) k = .int (mm_i M' a k)) (hn : narrow (nn_t ci k) (.int x) = .int x ∧ fits (nn_t ci k) (.int x) = true)
    (kk : jj_ l y cc nL ret G R A Q mc ms (pc + 3) lv st (mm_si M a k x)) : jj_ l y cc nL ret G R A Q mc ms pc lv (.int x :: .ref a :: st) M := by
  refine jj_put0 (M' := mm_si M a k x) hd hf hk hn.1 hn.2 (fun _ => rfl) (fun b hb u => mm_e_si hb u) ?_ (fun j hj => ?_) kk
  · rw [hv, mm_i_si, if_pos ⟨rfl, rfl⟩]
  · have e1 : mm_i (mm_si M a k x) a j = mm_i M a j := by rw [mm_i_si, if_neg (fun h => hj h.2)]
    unfold mm_fv
    rw [e1]
    rfl
theorem jj_putr {a ci idx k : Nat} (r : Option Nat) (hd : decode cc pc = .ok (.putfield idx, 3)) (hf : (mm_Fl y.cls idx ci k ∧ (nn_T ci k).2.2.2 = false) ∨ (mm_Ff y.cls idx ci k ∧ y.name = "<init>")) (hk : mm_k M a = some (.inl ci))
    (hv : ∀ M' : mm_M, mm_fv M' a (nn_t ci k) k = va_rf (mm_r M' a k)) (hn : ∀ x, narrow (nn_t ci k) (va_rf x) = va_rf x ∧ fits (nn_t ci k) (va_rf x) = true)
    (kk : jj_ l y cc nL ret G R A Q mc ms (pc + 3) lv st (mm_sr M a k r)) : jj_ l y cc nL ret G R A Q mc ms pc lv (va_rf r :: .ref a :: st) M := by
  refine jj_put0 (M' := mm_sr M a k r) hd hf hk (hn r).1 (hn r).2 (fun _ => rfl) (fun b hb u => mm_e_sr hb u) ?_ (fun j hj => ?_) kk
  · rw [hv, mm_r_sr, if_pos ⟨rfl, rfl⟩]
  · have e1 : mm_r (mm_sr M a k r) a j = mm_r M a j := by rw [mm_r_sr, if_neg (fun h => hj h.2)]
    unfold mm_fv
    rw [e1]
    rfl
theorem jj_new {idx ci : Nat} (mc' ms' : Nat) (hd : decode cc pc = .ok (.new idx, 3)) (h8 : ci < 8) (hcl : Cond.classLink y.cls idx (nn_C ci) ∈ nn_TS) (hins : Cond.instantiable (nn_C ci) (nn_N ci) ∈ nn_TS) (hini : Cond.initialized (nn_C ci) ∈ nn_TS) (h1 : mc' + 1 ≤ mc) (h2 : ms' + nn_N ci ≤ ms)
    (kk : ∀ q, mm_k M q = none → jj_ l y cc nL ret G R A Q mc' ms' (pc + 3) lv (.ref q :: st) (mm_nw M q (.inl ci))) : jj_ l y cc nL ret G R A Q mc ms pc lv st M := by
  intro p e s m args below meth c H locs cells slots ls hE hH hl hL hr
  have hE0 := hE
  obtain ⟨hx, hb, hml, hown, hts, hK, hret, hlk, hnm, hnd, hA⟩ := hE
  obtain ⟨hr1, hr2⟩ := hr
  have hc := mm_cl_at h8
  have hKn := hK.1.1 ci _ hc
  refine W.newcK hx hb hown (hts _ hcl) (hts _ hins) (hts _ hini) rfl hd (by omega) (by omega) hKn.2.1 rfl fun H1 kC hkC e1 z1 o1 => ?_
  refine kk H.size (hH.fresh (Nat.le_refl _)) p e s m args below meth c H1 locs (cells + 1) (slots + nn_N ci) ls hE0 (hH.new ?_ o1) hl ⟨hL.1, fun q hq => ?_, by rw [z1]; have := hL.2.2; omega⟩ ⟨by omega, by omega⟩
  · refine ⟨_, hc, (u_born (nn_t ci) hts (nn_lay ci h8) hKn hkC e1 (nn_tok ci h8)).to (fun j hj => ?_)⟩
    rw [mm_fsV hj]
    exact mm_fv_nw (nn_tyok ci h8 j hj)
  · obtain ⟨t, ht, hro⟩ := hq
    rw [mm_k_nw] at ht
    by_cases eq : q = H.size
    · exact hA q (by have := hL.2.2; omega)
    · rw [if_neg eq] at ht
      exact hL.2.1 q ⟨t, ht, hro⟩
end JM
end
section
section JA
variable {l : Launch} {y : MethodName} {cc : ByteArray} {nL : Nat} {ret : Option FieldType} {G : mm_G} {R : Room} {A : Nat → Prop} {Q : mm_O → mm_M → Prop} {mc ms pc : Nat} {lv : List (Nat × Value)} {st : List Value} {M : mm_M}
theorem mm_at0 {G : mm_G} {M : mm_M} {H : Heap} (h : mm_H G M H) {a ai n : Nat} (hk : mm_k M a = some (.inr (ai, n))) (hi : mm_ac M a ai n = (n, .inl (mm_i M a))) : H[a]? = some (vp_cell (G.2.1 ai) (n, .inl (mm_i M a))) := by
  have h1 := h.1 a _ hk
  have h2 : H[a]? = some (vp_cell (G.2.1 ai) (mm_ac M a ai n)) := h1
  rw [hi] at h2
  exact h2
theorem mm_atr {G : mm_G} {M : mm_M} {H : Heap} (h : mm_H G M H) {a ai n : Nat} (hk : mm_k M a = some (.inr (ai, n))) (hi : mm_ac M a ai n = (n, .inr (.inr (.inr (.inr (mm_r M a)))))) : H[a]? = some (vp_cell (G.2.1 ai) (n, .inr (.inr (.inr (.inr (mm_r M a)))))) := by
  have h1 := h.1 a _ hk
  have h2 : H[a]? = some (vp_cell (G.2.1 ai) (mm_ac M a ai n)) := h1
  rw [hi] at h2
  exact h2
theorem mm_atl {G : mm_G} {M : mm_M} {H : Heap} (h : mm_H G M H) {a n : Nat} (hk : mm_k M a = some (.inr (2, n))) : H[a]? = some (vp_cell (G.2.1 2) (n, .inr (.inl (mm_l M a)))) := h.1 a _ hk
theorem jj_iald {a ai n : Nat} {i : Int32} (hd : decode cc pc = .ok (.iaload, 1)) (hk : mm_k M a = some (.inr (ai, n))) (h0 : ai = 0 ∨ ai = 6) (hin : vp_in i n) (kk : jj_ l y cc nL ret G R A Q mc ms (pc + 1) lv (.int (mm_i M a i.toNatClampNeg) :: st) M) : jj_ l y cc nL ret G R A Q mc ms pc lv (.int i :: .ref a :: st) M := by
  intro p e s m args below meth c H locs cells slots ls hE hH hl hL hr
  have w := kk p e s m args below meth c H locs cells slots ls hE hH hl hL hr
  obtain ⟨hx, hb, hml, hown, hts, hK, -⟩ := hE
  rcases h0 with rfl | rfl
  · exact va_iald hx hb hK.1 (hH.get hk) 0 0 rfl (mm_tys_at G (by omega)) hin hd w
  · exact va_iald hx hb hK.1 (hH.get hk) 0 6 rfl (mm_tys_at G (by omega)) hin hd w
theorem jj_zald {a n : Nat} {i : Int32} (hd : decode cc pc = .ok (.baload, 1)) (hk : mm_k M a = some (.inr (1, n))) (hin : vp_in i n) (kk : jj_ l y cc nL ret G R A Q mc ms (pc + 1) lv (.int (mm_i M a i.toNatClampNeg) :: st) M) : jj_ l y cc nL ret G R A Q mc ms pc lv (.int i :: .ref a :: st) M := by
  intro p e s m args below meth c H locs cells slots ls hE hH hl hL hr
  have w := kk p e s m args below meth c H locs cells slots ls hE hH hl hL hr
  obtain ⟨hx, hb, hml, hown, hts, hK, -⟩ := hE
  exact va_zald hx hb hK.1 (hH.get hk) 0 1 rfl (mm_tys_at G (by omega)) hin hd w
theorem jj_lald {a n : Nat} {i : Int32} (hd : decode cc pc = .ok (.laload, 1)) (hk : mm_k M a = some (.inr (2, n))) (hin : vp_in i n) (kk : jj_ l y cc nL ret G R A Q mc ms (pc + 1) lv (.long (mm_l M a i.toNatClampNeg) :: st) M) : jj_ l y cc nL ret G R A Q mc ms pc lv (.int i :: .ref a :: st) M := by
  intro p e s m args below meth c H locs cells slots ls hE hH hl hL hr
  have w := kk p e s m args below meth c H locs cells slots ls hE hH hl hL hr
  obtain ⟨hx, hb, hml, hown, hts, hK, -⟩ := hE
  exact va_lald hx hb hK.1 (hH.get hk) 0 2 rfl (mm_tys_at G (by omega)) hin hd w
theorem jj_aald {a ai n : Nat} {i : Int32} (hd : decode cc pc = .ok (.aaload, 1)) (hk : mm_k M a = some (.inr (ai, n))) (h0 : ai = 3 ∨ ai = 4 ∨ ai = 5) (hin : vp_in i n) (r : Option Nat) (hr0 : mm_r M a i.toNatClampNeg = r) (kk : jj_ l y cc nL ret G R A Q mc ms (pc + 1) lv (va_rf r :: st) M) : jj_ l y cc nL ret G R A Q mc ms pc lv (.int i :: .ref a :: st) M := by
  subst hr0
  intro p e s m args below meth c H locs cells slots ls hE hH hl hL hr
  have w := kk p e s m args below meth c H locs cells slots ls hE hH hl hL hr
  obtain ⟨hx, hb, hml, hown, hts, hK, -⟩ := hE
  rcases h0 with rfl | rfl | rfl
  · exact va_aldq hx hb hK.1 (hH.get hk) 0 3 rfl (mm_tys_at G (by omega)) hin hd w
  · exact va_aldq hx hb hK.1 (hH.get hk) 0 4 rfl (mm_tys_at G (by omega)) hin hd w
  · exact va_aldq hx hb hK.1 (hH.get hk) 0 5 rfl (mm_tys_at G (by omega)) hin hd w
theorem jj_alen {a ai n : Nat} {v : Int32} (hd : decode cc pc = .ok (.arraylength, 1)) (hk : mm_k M a = some (.inr (ai, n))) (h7 : ai < 7) (hv : Int32.ofNat n = v) (kk : jj_ l y cc nL ret G R A Q mc ms (pc + 1) lv (.int v :: st) M) : jj_ l y cc nL ret G R A Q mc ms pc lv (.ref a :: st) M := by
  intro p e s m args below meth c H locs cells slots ls hE hH hl hL hr
  have w := kk p e s m args below meth c H locs cells slots ls hE hH hl hL hr
  obtain ⟨hx, hb, hml, hown, hts, hK, -⟩ := hE
  have hn : (mm_ac M a ai n).1 = n := by
    unfold mm_ac
    split <;> rfl
  exact va_alen hx hb hK.1 (hH.get hk) 0 ai rfl (mm_tys_at G h7) (by rw [hn]; exact hv) hd w
theorem jj_iast {a n : Nat} {i x : Int32} (hd : decode cc pc = .ok (.iastore, 1)) (hk : mm_k M a = some (.inr (0, n))) (hin : vp_in i n) (kk : jj_ l y cc nL ret G R A Q mc ms (pc + 1) lv st (mm_si M a i.toNatClampNeg x)) : jj_ l y cc nL ret G R A Q mc ms pc lv (.int x :: .int i :: .ref a :: st) M := by
  intro p e s m args below meth c H locs cells slots ls hE hH hl hL hr
  have hE0 := hE
  obtain ⟨hx, hb, hml, hown, hts, hK, -⟩ := hE
  refine W.iast hx hb (mm_at0 hH hk rfl) ((hK.1.2 0 _ (mm_tys_at G (by omega))).1 n (fun j => .int (mm_i M a j))) (fun q => by cases q) (by show ¬ (i < 0 ∨ (arrV _ _ _).slots.size ≤ _); rw [arrV_size]; exact hin) rfl rfl hd fun H1 e1 z oq => ?_
  refine kk p e s m args below meth c H1 _ cells slots ls hE0 (hH.put hk (fun _ => rfl) (fun b hb u => mm_e_si hb u) ?_ oq) hl ⟨?_, fun q hq => hL.2.1 q hq, by rw [z]; exact hL.2.2⟩ hr
  · show H1[a]? = some (vp_cell _ _)
    rw [e1, vp_cell_i]
    show some _ = some (vp_cell _ (n, .inl (mm_i (mm_si M a i.toNatClampNeg x) a)))
    rw [vp_cell_i, arrV_store]
    congr 2
    funext q
    show (if q = i.toNatClampNeg then Value.int x else Value.int (mm_i M a q)) = Value.int (mm_i (mm_si M a i.toNatClampNeg x) a q)
    rw [mm_i_si]
    by_cases hq : q = i.toNatClampNeg
    · rw [if_pos hq, if_pos ⟨rfl, hq⟩]
    · rw [if_neg hq, if_neg (fun h => hq h.2)]
  · intro q hq
    rcases List.mem_append.mp hq with h2 | h2
    · exact hL.1 q h2
    · rw [List.mem_singleton.mp h2]
      exact hL.2.1 a ⟨_, hk, rfl⟩
theorem jj_zast {a n : Nat} {i x : Int32} (hd : decode cc pc = .ok (.bastore, 1)) (hk : mm_k M a = some (.inr (1, n))) (hin : vp_in i n) (hz : narrow .boolean (.int x) = .int x) (kk : jj_ l y cc nL ret G R A Q mc ms (pc + 1) lv st (mm_si M a i.toNatClampNeg x)) : jj_ l y cc nL ret G R A Q mc ms pc lv (.int x :: .int i :: .ref a :: st) M := by
  intro p e s m args below meth c H locs cells slots ls hE hH hl hL hr
  have hE0 := hE
  obtain ⟨hx, hb, hml, hown, hts, hK, -⟩ := hE
  refine W.zast hx hb (mm_at0 hH hk rfl) ((hK.1.2 1 _ (mm_tys_at G (by omega))).1 n (fun j => .int (mm_i M a j))) (fun q => by cases q) (by show ¬ (i < 0 ∨ (arrV _ _ _).slots.size ≤ _); rw [arrV_size]; exact hin) rfl rfl hd fun H1 e1 z oq => ?_
  rw [hz] at e1
  refine kk p e s m args below meth c H1 _ cells slots ls hE0 (hH.put hk (fun _ => rfl) (fun b hb u => mm_e_si hb u) ?_ oq) hl ⟨?_, fun q hq => hL.2.1 q hq, by rw [z]; exact hL.2.2⟩ hr
  · show H1[a]? = some (vp_cell _ _)
    rw [e1, vp_cell_i]
    show some _ = some (vp_cell _ (n, .inl (mm_i (mm_si M a i.toNatClampNeg x) a)))
    rw [vp_cell_i, arrV_store]
    congr 2
    funext q
    show (if q = i.toNatClampNeg then Value.int x else Value.int (mm_i M a q)) = Value.int (mm_i (mm_si M a i.toNatClampNeg x) a q)
    rw [mm_i_si]
    by_cases hq : q = i.toNatClampNeg
    · rw [if_pos hq, if_pos ⟨rfl, hq⟩]
    · rw [if_neg hq, if_neg (fun h => hq h.2)]
  · intro q hq
    rcases List.mem_append.mp hq with h2 | h2
    · exact hL.1 q h2
    · rw [List.mem_singleton.mp h2]
      exact hL.2.1 a ⟨_, hk, rfl⟩
theorem jj_last {a n : Nat} {i : Int32} {x : Int64} (hd : decode cc pc = .ok (.lastore, 1)) (hk : mm_k M a = some (.inr (2, n))) (hin : vp_in i n) (kk : jj_ l y cc nL ret G R A Q mc ms (pc + 1) lv st (mm_sl M a i.toNatClampNeg x)) : jj_ l y cc nL ret G R A Q mc ms pc lv (.long x :: .int i :: .ref a :: st) M := by
  intro p e s m args below meth c H locs cells slots ls hE hH hl hL hr
  have hE0 := hE
  obtain ⟨hx, hb, hml, hown, hts, hK, -⟩ := hE
  refine W.last hx hb (mm_atl hH hk) ((hK.1.2 2 _ (mm_tys_at G (by omega))).1 n (fun j => .long (mm_l M a j))) (fun q => by cases q) (by show ¬ (i < 0 ∨ (arrV _ _ _).slots.size ≤ _); rw [arrV_size]; exact hin) rfl rfl hd fun H1 e1 z oq => ?_
  refine kk p e s m args below meth c H1 _ cells slots ls hE0 (hH.put hk (fun _ => rfl) (fun b hb u => mm_e_sl hb u) ?_ oq) hl ⟨?_, fun q hq => hL.2.1 q hq, by rw [z]; exact hL.2.2⟩ hr
  · show H1[a]? = some (vp_cell _ _)
    rw [e1, vp_cell_l]
    show some _ = some (vp_cell _ (n, .inr (.inl (mm_l (mm_sl M a i.toNatClampNeg x) a))))
    rw [vp_cell_l, arrV_store]
    congr 2
    funext q
    show (if q = i.toNatClampNeg then Value.long x else Value.long (mm_l M a q)) = Value.long (mm_l (mm_sl M a i.toNatClampNeg x) a q)
    rw [mm_l_sl]
    by_cases hq : q = i.toNatClampNeg
    · rw [if_pos hq, if_pos ⟨rfl, hq⟩]
    · rw [if_neg hq, if_neg (fun h => hq h.2)]
  · intro q hq
    rcases List.mem_append.mp hq with h2 | h2
    · exact hL.1 q h2
    · rw [List.mem_singleton.mp h2]
      exact hL.2.1 a ⟨_, hk, rfl⟩
theorem jj_aast {a ai ci n v : Nat} {i : Int32} (hd : decode cc pc = .ok (.aastore, 1)) (hk : mm_k M a = some (.inr (ai, n))) (h0 : ai = 3 ∨ ai = 4 ∨ ai = 5) (h8 : ci < 8) (hty : mm_ty ai = .object (nn_C ci)) (hkv : mm_k M v = some (.inl ci)) (hin : vp_in i n) (kk : jj_ l y cc nL ret G R A Q mc ms (pc + 1) lv st (mm_sr M a i.toNatClampNeg (some v))) : jj_ l y cc nL ret G R A Q mc ms pc lv (.ref v :: .int i :: .ref a :: st) M := by
  have hac : ∀ M' : mm_M, mm_ac M' a ai n = (n, .inr (.inr (.inr (.inr (mm_r M' a))))) := by
    intro M'
    rcases h0 with rfl | rfl | rfl <;> rfl
  have h7 : ai < 7 := by omega
  intro p e s m args below meth c H locs cells slots ls hE hH hl hL hr
  have hE0 := hE
  obtain ⟨hx, hb, hml, hown, hts, hK, -⟩ := hE
  have hlt : i.toNatClampNeg < n := Nat.not_le.mp fun q => hin (Or.inr q)
  have hi0 : ¬ i < 0 := fun q => hin (Or.inl q)
  obtain ⟨r', hr', cellV, g1, g2, g3, -⟩ := hH.1 v _ hkv
  have hcls := (hK.1.1 ci _ (mm_cl_at h8)).2
  have hRA := (hK.1.2 ai _ (mm_tys_at G h7)).2
  rw [hty] at hRA
  obtain ⟨kA, comp, k1, k2, k3, -⟩ := hRA
  have hcomp : comp = G.1.1 ci := Option.some.inj (k3.symm.trans hcls.1)
  subst hcomp
  obtain ⟨kC, hkC, -⟩ := hcls.2
  refine W.aast hx hb (mm_atr hH hk (hac M)) (fun q h => by cases h) (fun h => by cases h) k1 k2 rfl hkC ⟨hi0, by show _ < (arrV _ _ _).slots.size; rw [arrV_size]; exact hlt⟩ g1 (fun q h => by rw [g3] at h; cases h) (by rw [g2]; exact hkC) (by rw [g2]; exact va_assign hcls) rfl rfl hd fun H1 e1 z oq => ?_
  refine kk p e s m args below meth c H1 _ cells slots ls hE0 (hH.put hk (fun _ => rfl) (fun b hb u => mm_e_sr hb u) ?_ oq) hl ⟨?_, fun q hq => hL.2.1 q hq, by rw [z]; exact hL.2.2⟩ hr
  · show H1[a]? = some (vp_cell _ (mm_ac _ _ _ _))
    rw [hac, e1, vp_cell_q, vp_cell_q, arrV_store]
    congr 2
    funext q
    show (if q = i.toNatClampNeg then Value.ref v else va_rf (mm_r M a q)) = va_rf (mm_r (mm_sr M a i.toNatClampNeg (some v)) a q)
    rw [mm_r_sr]
    by_cases hq : q = i.toNatClampNeg
    · rw [if_pos hq, if_pos ⟨rfl, hq⟩]
      rfl
    · rw [if_neg hq, if_neg (fun h => hq h.2)]
  · intro q hq
    rcases List.mem_append.mp hq with h2 | h2
    · exact hL.1 q h2
    · rw [List.mem_singleton.mp h2]
      refine hL.2.1 a ⟨_, hk, ?_⟩
      rcases h0 with rfl | rfl | rfl <;> rfl
theorem jj_newa {atype : ArrayType} {ai N : Nat} {n : Int32} (mc' ms' : Nat) (hd : decode cc pc = .ok (.newarray atype, 2)) (h0 : ai = 0 ∨ ai = 1 ∨ ai = 2) (hty : newarray.typeOf atype = mm_ty ai) (hw : Cond.arrayClass (newarray.typeOf atype) ∈ nn_TS)
    (hn : ¬ n < 0) (hN : n.toNatClampNeg = N) (hbytes : N * componentBytes (newarray.typeOf atype) ≤ 536870912) (h1 : mc' + 1 ≤ mc) (h2 : ms' + N ≤ ms)
    (kk : ∀ q, mm_k M q = none → jj_ l y cc nL ret G R A Q mc' ms' (pc + 2) lv (.ref q :: st) (mm_nw M q (.inr (ai, N)))) : jj_ l y cc nL ret G R A Q mc ms pc lv (.int n :: st) M := by
  intro p e s m args below meth c H locs cells slots ls hE hH hl hL hr
  have hE0 := hE
  obtain ⟨hx, hb, hml, hown, hts, hK, hret, hlk, hnm, hnd, hA⟩ := hE
  obtain ⟨hr1, hr2⟩ := hr
  refine va_newaK hx hb (hts _ hw) rfl hd rfl hn hN hbytes (by omega) (by omega) rfl fun H1 cA e1 z1 o1 hAr hNm => ?_
  have hcA : cA = G.2.1 ai := by
    have h5 := (hK.1.2 ai _ (mm_tys_at G (by omega))).2
    rw [hty] at hNm
    have h6 : s.vm.findClass ("[" ++ (mm_ty ai).toString) = some (G.2.1 ai) := by
      rcases h0 with rfl | rfl | rfl <;> exact h5
    exact Option.some.inj (hNm.symm.trans h6)
  subst hcA
  refine kk H.size (hH.fresh (Nat.le_refl _)) p e s m args below meth c H1 locs (cells + 1) (slots + N) ls hE0 (hH.new ?_ o1) hl ⟨hL.1, fun q hq => ?_, by rw [z1]; have := hL.2.2; omega⟩ ⟨by omega, by omega⟩
  · show H1[H.size]? = some (vp_cell _ (mm_ac _ _ _ _))
    rw [e1, hty]
    have f1 : mm_i (mm_nw M H.size (.inr (ai, N))) H.size = fun _ => 0 := funext fun j => by rw [mm_i_nw, if_pos rfl]
    have f3 : mm_l (mm_nw M H.size (.inr (ai, N))) H.size = fun _ => 0 := funext fun j => by rw [mm_l_nw, if_pos rfl]
    rcases h0 with rfl | rfl | rfl
    · show _ = some (vp_cell _ (N, .inl (mm_i (mm_nw M H.size (.inr (0, N))) H.size)))
      rw [f1]
      rfl
    · show _ = some (vp_cell _ (N, .inl (mm_i (mm_nw M H.size (.inr (1, N))) H.size)))
      rw [f1]
      rfl
    · show _ = some (vp_cell _ (N, .inr (.inl (mm_l (mm_nw M H.size (.inr (2, N))) H.size))))
      rw [f3]
      rfl
  · obtain ⟨t, ht, hro⟩ := hq
    rw [mm_k_nw] at ht
    by_cases eq : q = H.size
    · exact hA q (by have := hL.2.2; omega)
    · rw [if_neg eq] at ht
      exact hL.2.1 q ⟨t, ht, hro⟩
theorem jj_anew {idx ai N : Nat} {C : String} {n : Int32} (mc' ms' : Nat) (hd : decode cc pc = .ok (.anewarray idx, 3)) (h0 : ai = 3 ∨ ai = 4 ∨ ai = 5) (hty : mm_ty ai = .object C) (hcl : Cond.classLink y.cls idx C ∈ nn_TS)
    (hn : ¬ n < 0) (hN : n.toNatClampNeg = N) (hbytes : N * 4 ≤ 536870912) (h1 : mc' + 1 ≤ mc) (h2 : ms' + N ≤ ms)
    (kk : ∀ q, mm_k M q = none → jj_ l y cc nL ret G R A Q mc' ms' (pc + 3) lv (.ref q :: st) (mm_nw M q (.inr (ai, N)))) : jj_ l y cc nL ret G R A Q mc ms pc lv (.int n :: st) M := by
  subst hN
  intro p e s m args below meth c H locs cells slots ls hE hH hl hL hr
  have hE0 := hE
  obtain ⟨hx, hb, hml, hown, hts, hK, hret, hlk, hnm, hnd, hA⟩ := hE
  obtain ⟨hr1, hr2⟩ := hr
  have hAO : va_AO C s := by
    rcases h0 with rfl | rfl | rfl
    · have hC : C = "TabletCommits$Tablet" := by cases hty; rfl
      rw [hC]; exact hK.2.2.1.1
    · have hC : C = "TabletCommits$Cell" := by cases hty; rfl
      rw [hC]; exact hK.2.2.1.2.1
    · have hC : C = "TabletCommits$Transaction" := by cases hty; rfl
      rw [hC]; exact hK.2.2.1.2.2
  refine W.anew hx hb hown (hts _ hcl) (va_AO.use hAO) rfl hd rfl hn hbytes (by omega) (by omega) fun cA kA comp f1 f2 f3 f4 => ?_
  generalize hH1 : H.push ({ cls := cA, slots := Array.replicate n.toNatClampNeg .null, vm := .none } : Cell) = H1
  have z1 : H1.size = H.size + 1 := by rw [← hH1, Array.size_push]
  have e1 : H1[H.size]? = some (arrV cA n.toNatClampNeg (fun _ => .null)) := by rw [← hH1, Array.getElem?_push_size, ← arrV_new]
  have o1 : ∀ q : Nat, q < H.size → H1[q]? = H[q]? := fun q hq => by rw [← hH1, Array.getElem?_push, if_neg (Nat.ne_of_lt hq)]
  have hcA : cA = G.2.1 ai := by
    have h5 := (hK.1.2 ai _ (mm_tys_at G (by omega))).2
    rw [hty] at h5
    obtain ⟨_, _, -, -, -, h6⟩ := h5
    exact Option.some.inj (f1.symm.trans h6)
  subst hcA
  refine kk H.size (hH.fresh (Nat.le_refl _)) p e s m args below meth c H1 locs (cells + 1) (slots + n.toNatClampNeg) ls hE0 (hH.new ?_ o1) hl ⟨hL.1, fun q hq => ?_, by rw [z1]; have := hL.2.2; omega⟩ ⟨by omega, by omega⟩
  · show H1[H.size]? = some (vp_cell _ (mm_ac _ _ _ _))
    rw [e1]
    have f5 : mm_r (mm_nw M H.size (.inr (ai, n.toNatClampNeg))) H.size = fun _ => none := funext fun j => by rw [mm_r_nw, if_pos rfl]
    rcases h0 with rfl | rfl | rfl
    · show _ = some (vp_cell _ (n.toNatClampNeg, .inr (.inr (.inr (.inr (mm_r (mm_nw M H.size (.inr (3, n.toNatClampNeg))) H.size))))))
      rw [f5]
      rfl
    · show _ = some (vp_cell _ (n.toNatClampNeg, .inr (.inr (.inr (.inr (mm_r (mm_nw M H.size (.inr (4, n.toNatClampNeg))) H.size))))))
      rw [f5]
      rfl
    · show _ = some (vp_cell _ (n.toNatClampNeg, .inr (.inr (.inr (.inr (mm_r (mm_nw M H.size (.inr (5, n.toNatClampNeg))) H.size))))))
      rw [f5]
      rfl
  · obtain ⟨t, ht, hro⟩ := hq
    rw [mm_k_nw] at ht
    by_cases eq : q = H.size
    · exact hA q (by have := hL.2.2; omega)
    · rw [if_neg eq] at ht
      exact hL.2.1 q ⟨t, ht, hro⟩
end JA
end
section
theorem nn_GJ {z : Cond} (hz : z ∈ nn_TS) : GoodIn nn_TS (z :: nn_TS) := by
  intro w hw
  rcases List.mem_cons.mp hw with rfl | hw
  · exact ⟨hz, nn_good hz⟩
  · exact ⟨hw, nn_good hw⟩
def mm_Cs (own : String) (idx : Nat) (z : MethodName) (zc : ByteArray) (znL : Nat) (zret : Option FieldType) (n : Nat) : Prop :=
  Cond.code z zc znL zret ∈ nn_TS ∧ Cond.initialized z.cls ∈ nn_TS ∧ (z.cls ≠ "java/lang/invoke/MethodHandle" ∧ z.cls ≠ "java/lang/invoke/VarHandle" ∧ (parseMethodDescriptor z.desc).map (fun d => d.parameters.length) = some n) ∧
  (Cond.methodLink own idx z ∈ nn_TS ∨ ∃ host, Cond.methodLinkNest own idx z host ∈ nn_NS)
section JC
variable {l : Launch} {y : MethodName} {cc : ByteArray} {nL : Nat} {ret : Option FieldType} {G : mm_G} {R : Room} {A : Nat → Prop} {Q : mm_O → mm_M → Prop} {mc ms pc : Nat} {lv : List (Nat × Value)} {st : List Value} {M : mm_M}
theorem mm_after {p : Program} {e : Env} {s : State} {m : MethodId} {args : Array Value} {below : List Frame} {meth : Method} {c : Code} {H : Heap} {locs : List Loc} {cells slots : Nat} {ls : Array Slot} {mc' ms' mcr msr : Nat} {st0 rest : List Value} {a : Array Value}
    (hr : va_Run p l e R s m args below meth c H locs cells slots mc' ms' (F0 m pc ls st0) rest (mm_Q G (mm_ret (fun v M' => jj_ l y cc nL ret G R A Q mcr msr (pc + 3) lv (v.toList ++ rest) M')) (mm_A M H.size) a) (mm_A M H.size))
    (hE : mm_E p s m args meth c y cc nL ret G A) (hl : lv_has ls nL lv) (hL : mm_L s A M H locs) (h1 : cells + mc' + mcr ≤ R.cells) (h2 : slots + ms' + msr ≤ R.slots) :
    W p l e R s m args below meth c H locs cells slots (mm_X below (mm_Q G Q A) args s R.cells R.slots A) (F0 m pc ls st0) := by
  have hA := hE.2.2.2.2.2.2.2.2.2.2
  intro T hT X
  obtain ⟨v, st₀, t, T', L, h0, X', hL', e1, e2, ⟨oo, M', ho, hq, hH', hz, hw'⟩, stp⟩ := hr T hT X
  have hAA : ∀ q, mm_A M H.size q → A q := fun q hq => by
    rcases hq with h3 | h3
    · exact hL.2.1 q h3
    · exact hA q (Nat.le_trans hL.2.2 h3)
  cases oo with
  | inr q => exact hq.elim
  | inl v' =>
    have hv : Outcome.returned v = Outcome.returned v' := ho
    cases hv
    rw [h0] at hz
    obtain ⟨t2, a1, b1⟩ := hq p e s m args below meth c T'.heap (locs ++ L) (cells + mc') (slots + ms') ls hE (by rw [e1]; exact hH') hl
      ⟨fun q hq2 => by
        rcases List.mem_append.mp hq2 with h3 | h3
        · exact hL.1 q h3
        · exact hAA _ (hL' q h3), fun q hq2 => hAA q (hw' q hq2), by rw [e1]; exact Nat.le_trans hL.2.2 hz⟩ ⟨h1, h2⟩ T' rfl X'
    exact ⟨t2, stp t2 a1, b1⟩
theorem mm_pre {G : mm_G} {M : mm_M} {H : Heap} {s : State} {vs : List Value} (hH : mm_H G M H) (hK : mm_Kn G s) : PreS s H (mm_Pc G M H.size vs) vs :=
  ⟨mm_blind, fun U hU hW => ⟨rfl, by rw [hU], by rw [hU]; exact hH, hK.moved hW⟩⟩
theorem jj_callV {z : MethodName} {zc : ByteArray} {znL : Nat} {zret : Option FieldType} {d mc' ms' n idx b ci : Nat} (As rest : List Value) (mcr msr : Nat) (hd : decode cc pc = .ok (.invokevirtual idx, 3)) (hc : mm_Cs y.cls idx z zc znL zret n) (hi : Cond.instanceMethod z ∈ nn_TS ∧ Cond.selects z.cls z z ∈ nn_TS)
    (hk : mm_k M b = some (.inl ci)) (h8 : ci < 8 ∧ nn_C ci = z.cls) (hn : As.length = n) (hcat : (rest.map fun v => v.category).sum ≤ 8) (hR : d + 1 ≤ R.frames ∧ 8 + (znL + 11) + 34 * d ≤ R.locals) (h12 : mc' + mcr ≤ mc ∧ ms' + msr ≤ ms) (hst : st = As.reverse ++ .ref b :: rest)
    (hM : ct_ l z zc znL zret d mc' ms' (.ref b :: As) M (fun v M' => jj_ l y cc nL ret G R A Q mcr msr (pc + 3) lv (v.toList ++ rest) M')) : jj_ l y cc nL ret G R A Q mc ms pc lv st M := by
  subst hst
  obtain ⟨hcode, hini, hdd, hlnk⟩ := hc
  obtain ⟨h8, hci⟩ := h8
  intro p e s m args below meth c H locs cells slots ls hE hH hl hL hr
  have hE0 := hE
  obtain ⟨hx, hb, hml, hown, hts, hK, -⟩ := hE
  obtain ⟨hr1, hr2⟩ := hr
  have hrecv := va_recv (q0 := 0) (a := b) (fs := mm_fs M b ci) hK.1 (hH.get hk) (mm_cl_at h8) rfl
  dsimp only at hrecv
  rw [hci] at hrecv
  have hp : PreV s H z.cls b (mm_Pc G M H.size (.ref b :: As)) As := ⟨mm_blind, hrecv, (mm_pre hH hK).2⟩
  rcases hlnk with hlnk | ⟨host, hlnk⟩
  · exact mm_after (va_runV (As := As) (rest := rest) ⟨hx, hb, hml, hown, hts⟩ (hM G H.size) ⟨callB_of n hts (nn_GJ hcode) rfl rfl rfl (hts _ hini) (hts _ hlnk) hdd hR, hts _ hi.1, hts _ hi.2⟩ hp rfl hn hl.1 rfl (lv_room hcat) hd ⟨by omega, by omega⟩) hE0 hl hL (by omega) (by omega)
  · exact mm_after (va_runVN (As := As) (rest := rest) ⟨hx, hb, hml, hown, hts⟩ (hM G H.size) ⟨va_cnB n hts (nn_GJ hcode) rfl rfl rfl (hK.2.1 _ hlnk) (hts _ hini) hdd hR, hts _ hi.1, hts _ hi.2⟩ hp rfl hn hl.1 rfl (lv_room hcat) hd ⟨by omega, by omega⟩) hE0 hl hL (by omega) (by omega)
theorem jj_callS {z : MethodName} {zc : ByteArray} {znL : Nat} {zret : Option FieldType} {d mc' ms' n idx : Nat} (As rest : List Value) (mcr msr : Nat) (hd : decode cc pc = .ok (.invokestatic idx, 3)) (hc : mm_Cs y.cls idx z zc znL zret n) (hi : Cond.static z ∈ nn_TS)
    (hn : As.length = n) (hcat : (rest.map fun v => v.category).sum ≤ 8) (hR : d + 1 ≤ R.frames ∧ 8 + (znL + 11) + 34 * d ≤ R.locals) (h12 : mc' + mcr ≤ mc ∧ ms' + msr ≤ ms) (hst : st = As.reverse ++ rest)
    (hM : ct_ l z zc znL zret d mc' ms' As M (fun v M' => jj_ l y cc nL ret G R A Q mcr msr (pc + 3) lv (v.toList ++ rest) M')) : jj_ l y cc nL ret G R A Q mc ms pc lv st M := by
  subst hst
  obtain ⟨hcode, hini, hdd, hlnk⟩ := hc
  intro p e s m args below meth c H locs cells slots ls hE hH hl hL hr
  have hE0 := hE
  obtain ⟨hx, hb, hml, hown, hts, hK, -⟩ := hE
  obtain ⟨hr1, hr2⟩ := hr
  rcases hlnk with hlnk | ⟨host, hlnk⟩
  · exact mm_after (va_runS (As := As) (rest := rest) ⟨hx, hb, hml, hown, hts⟩ (hM G H.size) ⟨callB_of n hts (nn_GJ hcode) rfl rfl rfl (hts _ hini) (hts _ hlnk) hdd hR, hts _ hi⟩ (mm_pre hH hK) rfl hn hl.1 rfl (lv_room hcat) hd ⟨by omega, by omega⟩) hE0 hl hL (by omega) (by omega)
  · exact mm_after (va_runSN (As := As) (rest := rest) ⟨hx, hb, hml, hown, hts⟩ (hM G H.size) ⟨va_cnB n hts (nn_GJ hcode) rfl rfl rfl (hK.2.1 _ hlnk) (hts _ hini) hdd hR, hts _ hi, trivial⟩ (mm_pre hH hK) rfl hn hl.1 rfl (lv_room hcat) hd ⟨by omega, by omega⟩) hE0 hl hL (by omega) (by omega)
theorem jj_callI {z : MethodName} {zc : ByteArray} {znL : Nat} {d mc' ms' n idx b : Nat} (As rest : List Value) (mcr msr : Nat) (hd : decode cc pc = .ok (.invokespecial idx, 3)) (hc : mm_Cs y.cls idx z zc znL none n) (hi : Cond.instanceMethod z ∈ nn_TS ∧ z.name = "<init>")
    (hn : As.length = n) (hcat : (rest.map fun v => v.category).sum ≤ 8) (hR : d + 1 ≤ R.frames ∧ 8 + (znL + 11) + 34 * d ≤ R.locals) (h12 : mc' + mcr ≤ mc ∧ ms' + msr ≤ ms) (hst : st = As.reverse ++ .ref b :: rest)
    (hM : ct_ l z zc znL none d mc' ms' (.ref b :: As) M (fun v M' => jj_ l y cc nL ret G R A Q mcr msr (pc + 3) lv (v.toList ++ rest) M')) : jj_ l y cc nL ret G R A Q mc ms pc lv st M := by
  subst hst
  obtain ⟨hcode, hini, hdd, hlnk⟩ := hc
  intro p e s m args below meth c H locs cells slots ls hE hH hl hL hr
  have hE0 := hE
  obtain ⟨hx, hb, hml, hown, hts, hK, -⟩ := hE
  obtain ⟨hr1, hr2⟩ := hr
  rcases hlnk with hlnk | ⟨host, hlnk⟩
  · exact mm_after (va_runI (As := As) (rest := rest) ⟨hx, hb, hml, hown, hts⟩ (hM G H.size) ⟨callB_of n hts (nn_GJ hcode) rfl rfl rfl (hts _ hini) (hts _ hlnk) hdd hR, hi.2, hts _ hi.1⟩ (mm_pre hH hK) rfl hn hl.1 rfl (lv_room hcat) hd ⟨by omega, by omega⟩) hE0 hl hL (by omega) (by omega)
  · exact mm_after (va_runIN (As := As) (rest := rest) ⟨hx, hb, hml, hown, hts⟩ (hM G H.size) ⟨va_cnB n hts (nn_GJ hcode) rfl rfl rfl (hK.2.1 _ hlnk) (hts _ hini) hdd hR, hi.2, hts _ hi.1⟩ (mm_pre hH hK) rfl hn hl.1 rfl (lv_room hcat) hd ⟨by omega, by omega⟩) hE0 hl hL (by omega) (by omega)
theorem jj_objI {idx a : Nat} (hd : decode cc pc = .ok (.invokespecial idx, 3)) (hw : Cond.methodLink y.cls idx Lib.objectInit ∈ nn_TS ∧ Cond.instanceMethod Lib.objectInit ∈ nn_TS ∧ Cond.code Lib.objectInit ⟨#[0xb1]⟩ 1 none ∈ nn_TS) (hf : 1 ≤ R.frames) (hlo : (st.map fun v => v.category).sum + 12 ≤ R.locals)
    (kk : jj_ l y cc nL ret G R A Q mc ms (pc + 3) lv st M) : jj_ l y cc nL ret G R A Q mc ms pc lv (.ref a :: st) M := by
  intro p e s m args below meth c H locs cells slots ls hE hH hl hL hr
  have w := kk p e s m args below meth c H locs cells slots ls hE hH hl hL hr
  obtain ⟨hx, hb, hml, hown, hts, hK, -⟩ := hE
  refine W.objInit hx hb hown (hts _ hw.1) (hts _ hw.2.1) (hts _ hw.2.2) rfl (by rw [hml]; exact hl.1) rfl hd hf ?_ w
  show 2 * 0 + _ + 12 ≤ _
  omega
theorem jj_mmax {idx : Nat} {x z : Int32} (hd : decode cc pc = .ok (.invokestatic idx, 3)) (hw : Cond.methodLink y.cls idx Lib.Math.max.name ∈ nn_TS ∧ Cond.static Lib.Math.max.name ∈ nn_TS ∧ Cond.initialized "java/lang/Math" ∈ nn_TS ∧ Cond.code Lib.Math.max.name Lib.Math.max.code 2 (some .int) ∈ nn_TS) (hf : 1 ≤ R.frames) (hlo : (st.map fun v => v.category).sum + 13 ≤ R.locals)
    (kk : jj_ l y cc nL ret G R A Q mc ms (pc + 3) lv (.int (if x < z then z else x) :: st) M) : jj_ l y cc nL ret G R A Q mc ms pc lv (.int z :: .int x :: st) M := by
  intro p e s m args below meth c H locs cells slots ls hE hH hl hL hr
  have w := kk p e s m args below meth c H locs cells slots ls hE hH hl hL hr
  obtain ⟨hx, hb, hml, hown, hts, hK, -⟩ := hE
  obtain ⟨hr1, hr2⟩ := hr
  exact va_mmax hx hb (by rw [hml]; exact hl.1.symm) hown (hts _ hw.1) (hts _ hw.2.1) (hts _ hw.2.2.1) (hts _ hw.2.2.2) hf hlo (by omega) (by omega) hd w
theorem jj_mmin {idx : Nat} {x z : Int32} (hd : decode cc pc = .ok (.invokestatic idx, 3)) (hw : Cond.methodLink y.cls idx Lib.Math.min.name ∈ nn_TS ∧ Cond.static Lib.Math.min.name ∈ nn_TS ∧ Cond.initialized "java/lang/Math" ∈ nn_TS ∧ Cond.code Lib.Math.min.name Lib.Math.min.code 2 (some .int) ∈ nn_TS) (hf : 1 ≤ R.frames) (hlo : (st.map fun v => v.category).sum + 13 ≤ R.locals)
    (kk : jj_ l y cc nL ret G R A Q mc ms (pc + 3) lv (.int (if z < x then z else x) :: st) M) : jj_ l y cc nL ret G R A Q mc ms pc lv (.int z :: .int x :: st) M := by
  intro p e s m args below meth c H locs cells slots ls hE hH hl hL hr
  have w := kk p e s m args below meth c H locs cells slots ls hE hH hl hL hr
  obtain ⟨hx, hb, hml, hown, hts, hK, -⟩ := hE
  obtain ⟨hr1, hr2⟩ := hr
  exact va_mmin hx hb (by rw [hml]; exact hl.1.symm) hown (hts _ hw.1) (hts _ hw.2.1) (hts _ hw.2.2.1) (hts _ hw.2.2.2) hf hlo (by omega) (by omega) hd w
end JC
end
section
theorem mm_si_self (M : mm_M) (a k : Nat) : mm_si M a k (mm_i M a k) = M := by
  obtain ⟨f, g, h, q⟩ := M
  show (f, (fun b j => if b = a ∧ j = k then g a k else g b j), h, q) = (f, g, h, q)
  have : (fun b j => if b = a ∧ j = k then g a k else g b j) = g := by
    funext b j
    by_cases e : b = a ∧ j = k
    · rw [if_pos e, e.1, e.2]
    · rw [if_neg e]
  rw [this]
theorem mm_sr_self (M : mm_M) (a k : Nat) : mm_sr M a k (mm_r M a k) = M := by
  obtain ⟨f, g, h, q⟩ := M
  show (f, g, (fun b j => if b = a ∧ j = k then h a k else h b j), q) = (f, g, h, q)
  have : (fun b j => if b = a ∧ j = k then h a k else h b j) = h := by
    funext b j
    by_cases e : b = a ∧ j = k
    · rw [if_pos e, e.1, e.2]
    · rw [if_neg e]
  rw [this]
theorem mm_ext {M N : mm_M} (h1 : ∀ b, mm_k M b = mm_k N b) (h2 : ∀ b j, mm_i M b j = mm_i N b j) (h3 : ∀ b j, mm_r M b j = mm_r N b j) (h4 : ∀ b j, mm_l M b j = mm_l N b j) : M = N := by
  obtain ⟨f, g, h, q⟩ := M
  obtain ⟨f', g', h', q'⟩ := N
  have e1 : f = f' := funext h1
  have e2 : g = g' := funext fun b => funext fun j => h2 b j
  have e3 : h = h' := funext fun b => funext fun j => h3 b j
  have e4 : q = q' := funext fun b => funext fun j => h4 b j
  rw [e1, e2, e3, e4]
theorem mm_out {x c : Int32} {lo hi : Int} (h : x.toInt < lo ∨ hi < x.toInt) (h1 : lo ≤ c.toInt) (h2 : c.toInt ≤ hi) : ¬ x = c := by
  intro e
  subst e
  omega
theorem mm_nlt {x z : Int32} (h : x ≤ z) : ¬ z < x := by
  rw [Int32.le_iff_toInt_le] at h
  rw [Int32.lt_iff_toInt_lt]
  omega
theorem mm_lt {x z : Int32} (h : ¬ x ≤ z) : z < x := by
  rw [Int32.le_iff_toInt_le] at h
  rw [Int32.lt_iff_toInt_lt]
  omega
theorem mm_nle {x z : Int32} (h : x < z) : ¬ z ≤ x := by
  rw [Int32.lt_iff_toInt_lt] at h
  rw [Int32.le_iff_toInt_le]
  omega
theorem mm_le {x z : Int32} (h : ¬ x < z) : z ≤ x := by
  rw [Int32.lt_iff_toInt_lt] at h
  rw [Int32.le_iff_toInt_le]
  omega
theorem mm_bl {x : Int32} (h : x = 0 ∨ x = 1) : narrow .boolean (.int x) = .int x ∧ fits .boolean (.int x) = true := by
  rcases h with rfl | rfl
  · exact ⟨by decide, by decide⟩
  · exact ⟨by decide, by decide⟩
def nn_rf : FieldType → Bool
  | .object _ => true
  | .array _ => true
  | _ => false
theorem mm_nr {ty : FieldType} (h : nn_rf ty = true) : ∀ x, narrow ty (va_rf x) = va_rf x ∧ fits ty (va_rf x) = true := by
  intro x
  cases ty <;> first | (simp [nn_rf] at h; done) | (cases x <;> exact ⟨rfl, rfl⟩)
theorem mm_vlt {x : Int32} {n : Nat} (h : x < 0) : ¬ vp_in x n := fun q => q (Or.inl h)
theorem mm_vge {x c : Int32} {n : Nat} (h : c ≤ x) (hc : c.toInt = (n : Int)) : ¬ vp_in x n := by
  rw [vp_in_iff]
  rw [Int32.le_iff_toInt_le] at h
  omega
theorem mm_vin {x c : Int32} {n : Nat} (h1 : ¬ x < 0) (h2 : ¬ c ≤ x) (hc : c.toInt = (n : Int)) : vp_in x n := by
  rw [vp_in_iff]
  rw [Int32.lt_iff_toInt_lt, Int32.toInt_zero] at h1
  rw [Int32.le_iff_toInt_le] at h2
  omega
theorem mm_sw3 {x : Int32} {P : Prop} (ho : x.toInt < 0 ∨ 2 < x.toInt → P) (h0 : x = 0 → P) (h1 : x = 1 → P) (h2 : x = 2 → P) : P := by
  by_cases hh : x.toInt < 0 ∨ 2 < x.toInt
  · exact ho hh
  · by_cases e0 : x.toInt = 0
    · exact h0 (Int32.toInt_inj.mp (e0.trans (by decide)))
    by_cases e1 : x.toInt = 1
    · exact h1 (Int32.toInt_inj.mp (e1.trans (by decide)))
    by_cases e2 : x.toInt = 2
    · exact h2 (Int32.toInt_inj.mp (e2.trans (by decide)))
    exfalso
    omega
theorem mm_sw4 {x : Int32} {P : Prop} (ho : x.toInt < 0 ∨ 3 < x.toInt → P) (h0 : x = 0 → P) (h1 : x = 1 → P) (h2 : x = 2 → P) (h3 : x = 3 → P) : P := by
  by_cases hh : x.toInt < 0 ∨ 3 < x.toInt
  · exact ho hh
  · by_cases e0 : x.toInt = 0
    · exact h0 (Int32.toInt_inj.mp (e0.trans (by decide)))
    by_cases e1 : x.toInt = 1
    · exact h1 (Int32.toInt_inj.mp (e1.trans (by decide)))
    by_cases e2 : x.toInt = 2
    · exact h2 (Int32.toInt_inj.mp (e2.trans (by decide)))
    by_cases e3 : x.toInt = 3
    · exact h3 (Int32.toInt_inj.mp (e3.trans (by decide)))
    exfalso
    omega
theorem mm_sw6 {x : Int32} {P : Prop} (ho : x.toInt < 0 ∨ 5 < x.toInt → P) (h0 : x = 0 → P) (h1 : x = 1 → P) (h2 : x = 2 → P) (h3 : x = 3 → P) (h4 : x = 4 → P) (h5 : x = 5 → P) : P := by
  by_cases hh : x.toInt < 0 ∨ 5 < x.toInt
  · exact ho hh
  · by_cases e0 : x.toInt = 0
    · exact h0 (Int32.toInt_inj.mp (e0.trans (by decide)))
    by_cases e1 : x.toInt = 1
    · exact h1 (Int32.toInt_inj.mp (e1.trans (by decide)))
    by_cases e2 : x.toInt = 2
    · exact h2 (Int32.toInt_inj.mp (e2.trans (by decide)))
    by_cases e3 : x.toInt = 3
    · exact h3 (Int32.toInt_inj.mp (e3.trans (by decide)))
    by_cases e4 : x.toInt = 4
    · exact h4 (Int32.toInt_inj.mp (e4.trans (by decide)))
    by_cases e5 : x.toInt = 5
    · exact h5 (Int32.toInt_inj.mp (e5.trans (by decide)))
    exfalso
    omega
theorem mm_sw18 {x : Int32} {P : Prop} (ho : x.toInt < 0 ∨ 17 < x.toInt → P) (h0 : x = 0 → P) (h1 : x = 1 → P) (h2 : x = 2 → P) (h3 : x = 3 → P) (h4 : x = 4 → P) (h5 : x = 5 → P) (h6 : x = 6 → P) (h7 : x = 7 → P) (h8 : x = 8 → P) (h9 : x = 9 → P) (h10 : x = 10 → P) (h11 : x = 11 → P) (h12 : x = 12 → P) (h13 : x = 13 → P) (h14 : x = 14 → P) (h15 : x = 15 → P) (h16 : x = 16 → P) (h17 : x = 17 → P) : P := by
  by_cases hh : x.toInt < 0 ∨ 17 < x.toInt
  · exact ho hh
  · by_cases e0 : x.toInt = 0
    · exact h0 (Int32.toInt_inj.mp (e0.trans (by decide)))
    by_cases e1 : x.toInt = 1
    · exact h1 (Int32.toInt_inj.mp (e1.trans (by decide)))
    by_cases e2 : x.toInt = 2
    · exact h2 (Int32.toInt_inj.mp (e2.trans (by decide)))
    by_cases e3 : x.toInt = 3
    · exact h3 (Int32.toInt_inj.mp (e3.trans (by decide)))
    by_cases e4 : x.toInt = 4
    · exact h4 (Int32.toInt_inj.mp (e4.trans (by decide)))
    by_cases e5 : x.toInt = 5
    · exact h5 (Int32.toInt_inj.mp (e5.trans (by decide)))
    by_cases e6 : x.toInt = 6
    · exact h6 (Int32.toInt_inj.mp (e6.trans (by decide)))
    by_cases e7 : x.toInt = 7
    · exact h7 (Int32.toInt_inj.mp (e7.trans (by decide)))
    by_cases e8 : x.toInt = 8
    · exact h8 (Int32.toInt_inj.mp (e8.trans (by decide)))
    by_cases e9 : x.toInt = 9
    · exact h9 (Int32.toInt_inj.mp (e9.trans (by decide)))
    by_cases e10 : x.toInt = 10
    · exact h10 (Int32.toInt_inj.mp (e10.trans (by decide)))
    by_cases e11 : x.toInt = 11
    · exact h11 (Int32.toInt_inj.mp (e11.trans (by decide)))
    by_cases e12 : x.toInt = 12
    · exact h12 (Int32.toInt_inj.mp (e12.trans (by decide)))
    by_cases e13 : x.toInt = 13
    · exact h13 (Int32.toInt_inj.mp (e13.trans (by decide)))
    by_cases e14 : x.toInt = 14
    · exact h14 (Int32.toInt_inj.mp (e14.trans (by decide)))
    by_cases e15 : x.toInt = 15
    · exact h15 (Int32.toInt_inj.mp (e15.trans (by decide)))
    by_cases e16 : x.toInt = 16
    · exact h16 (Int32.toInt_inj.mp (e16.trans (by decide)))
    by_cases e17 : x.toInt = 17
    · exact h17 (Int32.toInt_inj.mp (e17.trans (by decide)))
    exfalso
    omega
section JN
variable {l : Launch} {y : MethodName} {cc : ByteArray} {nL : Nat} {ret : Option FieldType} {G : mm_G} {R : Room} {A : Nat → Prop} {Q : mm_O → mm_M → Prop} {mc ms pc : Nat} {lv : List (Nat × Value)} {st : List Value} {M : mm_M}
theorem jj_aload_nR {k4 : Fin 4} {r : Option Nat} (i : Nat) (hd : decode cc pc = .ok (.aload_n k4, 1)) (hi : lv[i]? = some (k4.val, va_rf r)) (k : jj_ l y cc nL ret G R A Q mc ms (pc + 1) lv (va_rf r :: st) M) : jj_ l y cc nL ret G R A Q mc ms pc lv st M := by
  cases r with
  | none => exact jj_aload_nN i hd hi k
  | some x => exact jj_aload_n i hd hi k
theorem jj_aloadR {n : Nat} {r : Option Nat} (i : Nat) (hd : decode cc pc = .ok (.aload n, 2)) (hi : lv[i]? = some (n, va_rf r)) (k : jj_ l y cc nL ret G R A Q mc ms (pc + 2) lv (va_rf r :: st) M) : jj_ l y cc nL ret G R A Q mc ms pc lv st M := by
  cases r with
  | none => exact jj_aloadN i hd hi k
  | some x => exact jj_aload i hd hi k
theorem jj_astore_nR {k4 : Fin 4} {r : Option Nat} {lv' : List (Nat × Value)} (hd : decode cc pc = .ok (.astore_n k4, 1)) (hn : k4.val < nL) (hl' : (k4.val, va_rf r) :: lv.filter (fun q => !(q.1 == k4.val) && !(q.1 + 1 == k4.val && q.2.category == 2)) = lv') (k : jj_ l y cc nL ret G R A Q mc ms (pc + 1) lv' st M) : jj_ l y cc nL ret G R A Q mc ms pc lv (va_rf r :: st) M := by
  cases r with
  | none => exact jj_astore_nN hd hn hl' k
  | some x => exact jj_astore_n hd hn hl' k
theorem jj_astoreR {n : Nat} {r : Option Nat} {lv' : List (Nat × Value)} (hd : decode cc pc = .ok (.astore n, 2)) (hn : n < nL) (hl' : (n, va_rf r) :: lv.filter (fun q => !(q.1 == n) && !(q.1 + 1 == n && q.2.category == 2)) = lv') (k : jj_ l y cc nL ret G R A Q mc ms (pc + 2) lv' st M) : jj_ l y cc nL ret G R A Q mc ms pc lv (va_rf r :: st) M := by
  cases r with
  | none => exact jj_astoreN hd hn hl' k
  | some x => exact jj_astore hd hn hl' k
end JN
end
section
theorem oi_TC_1 : Cond.methodLink "TabletCommits" 1 Lib.objectInit ∈ nn_TS ∧ Cond.instanceMethod Lib.objectInit ∈ nn_TS ∧ Cond.code Lib.objectInit ⟨#[0xb1]⟩ 1 none ∈ nn_TS := ⟨(nn_in 22 (by decide +kernel) rfl), (nn_in 23 (by decide +kernel) rfl), (nn_in 24 (by decide +kernel) rfl)⟩
theorem om_TC_9 : Cond.methodLink "TabletCommits" 9 Lib.Math.min.name ∈ nn_TS ∧ Cond.static Lib.Math.min.name ∈ nn_TS ∧ Cond.initialized "java/lang/Math" ∈ nn_TS ∧ Cond.code Lib.Math.min.name Lib.Math.min.code 2 (some .int) ∈ nn_TS := ⟨(nn_in 25 (by decide +kernel) rfl), (nn_in 26 (by decide +kernel) rfl), (nn_in 2 (by decide +kernel) rfl), (nn_in 27 (by decide +kernel) rfl)⟩
theorem om_TC_15 : Cond.methodLink "TabletCommits" 15 Lib.Math.max.name ∈ nn_TS ∧ Cond.static Lib.Math.max.name ∈ nn_TS ∧ Cond.initialized "java/lang/Math" ∈ nn_TS ∧ Cond.code Lib.Math.max.name Lib.Math.max.code 2 (some .int) ∈ nn_TS := ⟨(nn_in 28 (by decide +kernel) rfl), (nn_in 29 (by decide +kernel) rfl), (nn_in 2 (by decide +kernel) rfl), (nn_in 30 (by decide +kernel) rfl)⟩
theorem ff_TC_18 : mm_Fl "TabletCommits" 18 0 0 := ⟨by decide, by decide, Or.inl (nn_in 147 (by decide +kernel) rfl)⟩
theorem fg_TC_18 : mm_Ff "TabletCommits" 18 0 0 := ⟨by decide, by decide, (nn_in 147 (by decide +kernel) rfl), rfl, rfl⟩
theorem cl_TC_22 : Cond.classLink "TabletCommits" 22 (nn_C 1) ∈ nn_TS := (nn_in 31 (by decide +kernel) rfl)
theorem cs_TC_24 : mm_Cs "TabletCommits" 24 yy_Or_init bb_Or_init 1 none 0 := ⟨(nn_in 35 (by decide +kernel) rfl), (nn_in 3 (by decide +kernel) rfl), ⟨by decide, by decide, by decide +kernel⟩, Or.inr ⟨"TabletCommits", (nn_inN 33 (by decide +kernel) rfl)⟩⟩
theorem ci_TC_24 : Cond.instanceMethod yy_Or_init ∈ nn_TS ∧ yy_Or_init.name = "<init>" := ⟨(nn_in 34 (by decide +kernel) rfl), rfl⟩
theorem ff_TC_25 : mm_Fl "TabletCommits" 25 0 1 := ⟨by decide, by decide, Or.inl (nn_in 148 (by decide +kernel) rfl)⟩
theorem fg_TC_25 : mm_Ff "TabletCommits" 25 0 1 := ⟨by decide, by decide, (nn_in 148 (by decide +kernel) rfl), rfl, rfl⟩
theorem cl_TC_29 : Cond.classLink "TabletCommits" 29 (nn_C 2) ∈ nn_TS := (nn_in 46 (by decide +kernel) rfl)
theorem ff_TC_31 : mm_Fl "TabletCommits" 31 0 2 := ⟨by decide, by decide, Or.inl (nn_in 149 (by decide +kernel) rfl)⟩
theorem fg_TC_31 : mm_Ff "TabletCommits" 31 0 2 := ⟨by decide, by decide, (nn_in 149 (by decide +kernel) rfl), rfl, rfl⟩
theorem cs_TC_35 : mm_Cs "TabletCommits" 35 yy_Ta_init bb_Ta_init 1 none 0 := ⟨(nn_in 51 (by decide +kernel) rfl), (nn_in 4 (by decide +kernel) rfl), ⟨by decide, by decide, by decide +kernel⟩, Or.inr ⟨"TabletCommits", (nn_inN 49 (by decide +kernel) rfl)⟩⟩
theorem ci_TC_35 : Cond.instanceMethod yy_Ta_init ∈ nn_TS ∧ yy_Ta_init.name = "<init>" := ⟨(nn_in 50 (by decide +kernel) rfl), rfl⟩
theorem cl_TC_36 : Cond.classLink "TabletCommits" 36 (nn_C 3) ∈ nn_TS := (nn_in 75 (by decide +kernel) rfl)
theorem ff_TC_38 : mm_Fl "TabletCommits" 38 0 3 := ⟨by decide, by decide, Or.inl (nn_in 150 (by decide +kernel) rfl)⟩
theorem fg_TC_38 : mm_Ff "TabletCommits" 38 0 3 := ⟨by decide, by decide, (nn_in 150 (by decide +kernel) rfl), rfl, rfl⟩
theorem cs_TC_42 : mm_Cs "TabletCommits" 42 yy_Ce_init bb_Ce_init 2 none 1 := ⟨(nn_in 80 (by decide +kernel) rfl), (nn_in 5 (by decide +kernel) rfl), ⟨by decide, by decide, by decide +kernel⟩, Or.inl (nn_in 78 (by decide +kernel) rfl)⟩
theorem ci_TC_42 : Cond.instanceMethod yy_Ce_init ∈ nn_TS ∧ yy_Ce_init.name = "<init>" := ⟨(nn_in 79 (by decide +kernel) rfl), rfl⟩
theorem cl_TC_45 : Cond.classLink "TabletCommits" 45 (nn_C 6) ∈ nn_TS := (nn_in 97 (by decide +kernel) rfl)
theorem ff_TC_47 : mm_Fl "TabletCommits" 47 0 4 := ⟨by decide, by decide, Or.inl (nn_in 151 (by decide +kernel) rfl)⟩
theorem fg_TC_47 : mm_Ff "TabletCommits" 47 0 4 := ⟨by decide, by decide, (nn_in 151 (by decide +kernel) rfl), rfl, rfl⟩
theorem cs_TC_51 : mm_Cs "TabletCommits" 51 yy_Tr_init bb_Tr_init 2 none 1 := ⟨(nn_in 102 (by decide +kernel) rfl), (nn_in 6 (by decide +kernel) rfl), ⟨by decide, by decide, by decide +kernel⟩, Or.inl (nn_in 100 (by decide +kernel) rfl)⟩
theorem ci_TC_51 : Cond.instanceMethod yy_Tr_init ∈ nn_TS ∧ yy_Tr_init.name = "<init>" := ⟨(nn_in 101 (by decide +kernel) rfl), rfl⟩
theorem cs_TC_54 : mm_Cs "TabletCommits" 54 yy_TC_isClient bb_TC_isClient 1 (some .boolean) 1 := ⟨(nn_in 172 (by decide +kernel) rfl), (nn_in 1 (by decide +kernel) rfl), ⟨by decide, by decide, by decide +kernel⟩, Or.inl (nn_in 170 (by decide +kernel) rfl)⟩
theorem ci_TC_54 : Cond.static yy_TC_isClient ∈ nn_TS := (nn_in 171 (by decide +kernel) rfl)
theorem ff_TC_65 : mm_Fl "TabletCommits" 65 6 2 := ⟨by decide, by decide, Or.inr ⟨"TabletCommits", (nn_inN 107 (by decide +kernel) rfl)⟩⟩
theorem cs_TC_74 : mm_Cs "TabletCommits" 74 yy_Or_handOut bb_Or_handOut 2 (some .int) 0 := ⟨(nn_in 391 (by decide +kernel) rfl), (nn_in 3 (by decide +kernel) rfl), ⟨by decide, by decide, by decide +kernel⟩, Or.inl (nn_in 388 (by decide +kernel) rfl)⟩
theorem ci_TC_74 : Cond.instanceMethod yy_Or_handOut ∈ nn_TS ∧ Cond.selects yy_Or_handOut.cls yy_Or_handOut yy_Or_handOut ∈ nn_TS := ⟨(nn_in 389 (by decide +kernel) rfl), (nn_in 390 (by decide +kernel) rfl)⟩
theorem cs_TC_78 : mm_Cs "TabletCommits" 78 yy_Tr_startAt bb_Tr_startAt 2 none 1 := ⟨(nn_in 395 (by decide +kernel) rfl), (nn_in 6 (by decide +kernel) rfl), ⟨by decide, by decide, by decide +kernel⟩, Or.inl (nn_in 392 (by decide +kernel) rfl)⟩
theorem ci_TC_78 : Cond.instanceMethod yy_Tr_startAt ∈ nn_TS ∧ Cond.selects yy_Tr_startAt.cls yy_Tr_startAt yy_Tr_startAt ∈ nn_TS := ⟨(nn_in 393 (by decide +kernel) rfl), (nn_in 394 (by decide +kernel) rfl)⟩
theorem ff_TC_81 : mm_Fl "TabletCommits" 81 6 4 := ⟨by decide, by decide, Or.inr ⟨"TabletCommits", (nn_inN 111 (by decide +kernel) rfl)⟩⟩
theorem cs_TC_84 : mm_Cs "TabletCommits" 84 yy_TC_readingTransaction bb_TC_readingTransaction 4 (some (.object "TabletCommits$Transaction")) 2 := ⟨(nn_in 408 (by decide +kernel) rfl), (nn_in 1 (by decide +kernel) rfl), ⟨by decide, by decide, by decide +kernel⟩, Or.inl (nn_in 405 (by decide +kernel) rfl)⟩
theorem ci_TC_84 : Cond.instanceMethod yy_TC_readingTransaction ∈ nn_TS ∧ Cond.selects yy_TC_readingTransaction.cls yy_TC_readingTransaction yy_TC_readingTransaction ∈ nn_TS := ⟨(nn_in 407 (by decide +kernel) rfl), (nn_inp 5 (by decide +kernel) rfl)⟩
theorem cs_TC_88 : mm_Cs "TabletCommits" 88 yy_Tr_writes bb_Tr_writes 2 (some .boolean) 1 := ⟨(nn_in 414 (by decide +kernel) rfl), (nn_in 6 (by decide +kernel) rfl), ⟨by decide, by decide, by decide +kernel⟩, Or.inl (nn_in 411 (by decide +kernel) rfl)⟩
theorem ci_TC_88 : Cond.instanceMethod yy_Tr_writes ∈ nn_TS ∧ Cond.selects yy_Tr_writes.cls yy_Tr_writes yy_Tr_writes ∈ nn_TS := ⟨(nn_in 412 (by decide +kernel) rfl), (nn_in 413 (by decide +kernel) rfl)⟩
theorem cs_TC_91 : mm_Cs "TabletCommits" 91 yy_Tr_ownValue bb_Tr_ownValue 2 (some .int) 1 := ⟨(nn_in 418 (by decide +kernel) rfl), (nn_in 6 (by decide +kernel) rfl), ⟨by decide, by decide, by decide +kernel⟩, Or.inl (nn_in 415 (by decide +kernel) rfl)⟩
theorem ci_TC_91 : Cond.instanceMethod yy_Tr_ownValue ∈ nn_TS ∧ Cond.selects yy_Tr_ownValue.cls yy_Tr_ownValue yy_Tr_ownValue ∈ nn_TS := ⟨(nn_in 416 (by decide +kernel) rfl), (nn_in 417 (by decide +kernel) rfl)⟩
theorem ff_TC_95 : mm_Fl "TabletCommits" 95 3 0 := ⟨by decide, by decide, Or.inr ⟨"TabletCommits", (nn_inN 83 (by decide +kernel) rfl)⟩⟩
theorem ff_TC_99 : mm_Fl "TabletCommits" 99 2 0 := ⟨by decide, by decide, Or.inr ⟨"TabletCommits", (nn_inN 54 (by decide +kernel) rfl)⟩⟩
theorem ff_TC_104 : mm_Fl "TabletCommits" 104 2 1 := ⟨by decide, by decide, Or.inr ⟨"TabletCommits", (nn_inN 57 (by decide +kernel) rfl)⟩⟩
theorem cs_TC_112 : mm_Cs "TabletCommits" 112 yy_Ce_isLockedBefore bb_Ce_isLockedBefore 2 (some .boolean) 1 := ⟨(nn_in 223 (by decide +kernel) rfl), (nn_in 5 (by decide +kernel) rfl), ⟨by decide, by decide, by decide +kernel⟩, Or.inl (nn_in 220 (by decide +kernel) rfl)⟩
theorem ci_TC_112 : Cond.instanceMethod yy_Ce_isLockedBefore ∈ nn_TS ∧ Cond.selects yy_Ce_isLockedBefore.cls yy_Ce_isLockedBefore yy_Ce_isLockedBefore ∈ nn_TS := ⟨(nn_in 221 (by decide +kernel) rfl), (nn_in 222 (by decide +kernel) rfl)⟩
theorem cs_TC_115 : mm_Cs "TabletCommits" 115 yy_TC_clearUp bb_TC_clearUp 5 (some .int) 1 := ⟨(nn_in 459 (by decide +kernel) rfl), (nn_in 1 (by decide +kernel) rfl), ⟨by decide, by decide, by decide +kernel⟩, Or.inl (nn_in 456 (by decide +kernel) rfl)⟩
theorem ci_TC_115 : Cond.instanceMethod yy_TC_clearUp ∈ nn_TS ∧ Cond.selects yy_TC_clearUp.cls yy_TC_clearUp yy_TC_clearUp ∈ nn_TS := ⟨(nn_in 458 (by decide +kernel) rfl), (nn_inp 6 (by decide +kernel) rfl)⟩
theorem cs_TC_121 : mm_Cs "TabletCommits" 121 yy_Ce_lastWrittenBefore bb_Ce_lastWrittenBefore 3 (some (.object "TabletCommits$Version")) 1 := ⟨(nn_in 515 (by decide +kernel) rfl), (nn_in 5 (by decide +kernel) rfl), ⟨by decide, by decide, by decide +kernel⟩, Or.inl (nn_in 512 (by decide +kernel) rfl)⟩
theorem ci_TC_121 : Cond.instanceMethod yy_Ce_lastWrittenBefore ∈ nn_TS ∧ Cond.selects yy_Ce_lastWrittenBefore.cls yy_Ce_lastWrittenBefore yy_Ce_lastWrittenBefore ∈ nn_TS := ⟨(nn_in 513 (by decide +kernel) rfl), (nn_in 514 (by decide +kernel) rfl)⟩
theorem ff_TC_125 : mm_Fl "TabletCommits" 125 5 2 := ⟨by decide, by decide, Or.inr ⟨"TabletCommits", (nn_inN 481 (by decide +kernel) rfl)⟩⟩
theorem ff_TC_135 : mm_Fl "TabletCommits" 135 5 3 := ⟨by decide, by decide, Or.inr ⟨"TabletCommits", (nn_inN 484 (by decide +kernel) rfl)⟩⟩
theorem cs_TC_138 : mm_Cs "TabletCommits" 138 yy_Tr_willPut bb_Tr_willPut 3 none 2 := ⟨(nn_in 529 (by decide +kernel) rfl), (nn_in 6 (by decide +kernel) rfl), ⟨by decide, by decide, by decide +kernel⟩, Or.inl (nn_in 526 (by decide +kernel) rfl)⟩
theorem ci_TC_138 : Cond.instanceMethod yy_Tr_willPut ∈ nn_TS ∧ Cond.selects yy_Tr_willPut.cls yy_Tr_willPut yy_Tr_willPut ∈ nn_TS := ⟨(nn_in 527 (by decide +kernel) rfl), (nn_in 528 (by decide +kernel) rfl)⟩
theorem cs_TC_142 : mm_Cs "TabletCommits" 142 yy_Tr_willErase bb_Tr_willErase 2 none 1 := ⟨(nn_in 540 (by decide +kernel) rfl), (nn_in 6 (by decide +kernel) rfl), ⟨by decide, by decide, by decide +kernel⟩, Or.inl (nn_in 537 (by decide +kernel) rfl)⟩
theorem ci_TC_142 : Cond.instanceMethod yy_Tr_willErase ∈ nn_TS ∧ Cond.selects yy_Tr_willErase.cls yy_Tr_willErase yy_Tr_willErase ∈ nn_TS := ⟨(nn_in 538 (by decide +kernel) rfl), (nn_in 539 (by decide +kernel) rfl)⟩
theorem ff_TC_147 : mm_Fl "TabletCommits" 147 6 3 := ⟨by decide, by decide, Or.inr ⟨"TabletCommits", (nn_inN 109 (by decide +kernel) rfl)⟩⟩
theorem cs_TC_150 : mm_Cs "TabletCommits" 150 yy_TC_advance bb_TC_advance 2 (some .int) 1 := ⟨(nn_in 552 (by decide +kernel) rfl), (nn_in 1 (by decide +kernel) rfl), ⟨by decide, by decide, by decide +kernel⟩, Or.inl (nn_in 549 (by decide +kernel) rfl)⟩
theorem ci_TC_150 : Cond.instanceMethod yy_TC_advance ∈ nn_TS ∧ Cond.selects yy_TC_advance.cls yy_TC_advance yy_TC_advance ∈ nn_TS := ⟨(nn_in 551 (by decide +kernel) rfl), (nn_inp 8 (by decide +kernel) rfl)⟩
theorem cs_TC_154 : mm_Cs "TabletCommits" 154 yy_Tr_end bb_Tr_end 1 none 0 := ⟨(nn_in 176 (by decide +kernel) rfl), (nn_in 6 (by decide +kernel) rfl), ⟨by decide, by decide, by decide +kernel⟩, Or.inl (nn_in 173 (by decide +kernel) rfl)⟩
theorem ci_TC_154 : Cond.instanceMethod yy_Tr_end ∈ nn_TS ∧ Cond.selects yy_Tr_end.cls yy_Tr_end yy_Tr_end ∈ nn_TS := ⟨(nn_in 174 (by decide +kernel) rfl), (nn_in 175 (by decide +kernel) rfl)⟩
theorem cs_TC_157 : mm_Cs "TabletCommits" 157 yy_TC_isCell bb_TC_isCell 1 (some .boolean) 1 := ⟨(nn_in 257 (by decide +kernel) rfl), (nn_in 1 (by decide +kernel) rfl), ⟨by decide, by decide, by decide +kernel⟩, Or.inl (nn_in 255 (by decide +kernel) rfl)⟩
theorem ci_TC_157 : Cond.static yy_TC_isCell ∈ nn_TS := (nn_in 256 (by decide +kernel) rfl)
theorem ff_TC_162 : mm_Fl "TabletCommits" 162 0 5 := ⟨by decide, by decide, Or.inl (nn_in 152 (by decide +kernel) rfl)⟩
theorem cs_TC_165 : mm_Cs "TabletCommits" 165 yy_TC_isTablet bb_TC_isTablet 1 (some .boolean) 1 := ⟨(nn_in 187 (by decide +kernel) rfl), (nn_in 1 (by decide +kernel) rfl), ⟨by decide, by decide, by decide +kernel⟩, Or.inl (nn_in 185 (by decide +kernel) rfl)⟩
theorem ci_TC_165 : Cond.static yy_TC_isTablet ∈ nn_TS := (nn_in 186 (by decide +kernel) rfl)
theorem cs_TC_168 : mm_Cs "TabletCommits" 168 yy_Ta_comeUp bb_Ta_comeUp 1 none 0 := ⟨(nn_in 195 (by decide +kernel) rfl), (nn_in 4 (by decide +kernel) rfl), ⟨by decide, by decide, by decide +kernel⟩, Or.inl (nn_in 192 (by decide +kernel) rfl)⟩
theorem ci_TC_168 : Cond.instanceMethod yy_Ta_comeUp ∈ nn_TS ∧ Cond.selects yy_Ta_comeUp.cls yy_Ta_comeUp yy_Ta_comeUp ∈ nn_TS := ⟨(nn_in 193 (by decide +kernel) rfl), (nn_in 194 (by decide +kernel) rfl)⟩
theorem cs_TC_171 : mm_Cs "TabletCommits" 171 yy_Ta_failAt bb_Ta_failAt 3 none 2 := ⟨(nn_in 203 (by decide +kernel) rfl), (nn_in 4 (by decide +kernel) rfl), ⟨by decide, by decide, by decide +kernel⟩, Or.inl (nn_in 200 (by decide +kernel) rfl)⟩
theorem ci_TC_171 : Cond.instanceMethod yy_Ta_failAt ∈ nn_TS ∧ Cond.selects yy_Ta_failAt.cls yy_Ta_failAt yy_Ta_failAt ∈ nn_TS := ⟨(nn_in 201 (by decide +kernel) rfl), (nn_in 202 (by decide +kernel) rfl)⟩
theorem cs_TC_175 : mm_Cs "TabletCommits" 175 yy_Or_restart bb_Or_restart 1 (some .int) 0 := ⟨(nn_in 211 (by decide +kernel) rfl), (nn_in 3 (by decide +kernel) rfl), ⟨by decide, by decide, by decide +kernel⟩, Or.inl (nn_in 208 (by decide +kernel) rfl)⟩
theorem ci_TC_175 : Cond.instanceMethod yy_Or_restart ∈ nn_TS ∧ Cond.selects yy_Or_restart.cls yy_Or_restart yy_Or_restart ∈ nn_TS := ⟨(nn_in 209 (by decide +kernel) rfl), (nn_in 210 (by decide +kernel) rfl)⟩
theorem cs_TC_178 : mm_Cs "TabletCommits" 178 yy_TC_maySweep bb_TC_maySweep 6 (some .boolean) 1 := ⟨(nn_in 219 (by decide +kernel) rfl), (nn_in 1 (by decide +kernel) rfl), ⟨by decide, by decide, by decide +kernel⟩, Or.inl (nn_in 216 (by decide +kernel) rfl)⟩
theorem ci_TC_178 : Cond.instanceMethod yy_TC_maySweep ∈ nn_TS ∧ Cond.selects yy_TC_maySweep.cls yy_TC_maySweep yy_TC_maySweep ∈ nn_TS := ⟨(nn_in 218 (by decide +kernel) rfl), (nn_inp 0 (by decide +kernel) rfl)⟩
theorem cs_TC_181 : mm_Cs "TabletCommits" 181 yy_TC_writeSweep bb_TC_writeSweep 8 (some .boolean) 2 := ⟨(nn_in 227 (by decide +kernel) rfl), (nn_in 1 (by decide +kernel) rfl), ⟨by decide, by decide, by decide +kernel⟩, Or.inl (nn_in 224 (by decide +kernel) rfl)⟩
theorem ci_TC_181 : Cond.instanceMethod yy_TC_writeSweep ∈ nn_TS ∧ Cond.selects yy_TC_writeSweep.cls yy_TC_writeSweep yy_TC_writeSweep ∈ nn_TS := ⟨(nn_in 226 (by decide +kernel) rfl), (nn_inp 1 (by decide +kernel) rfl)⟩
theorem cs_TC_185 : mm_Cs "TabletCommits" 185 yy_Tr_answer bb_Tr_answer 2 (some .int) 1 := ⟨(nn_in 247 (by decide +kernel) rfl), (nn_in 6 (by decide +kernel) rfl), ⟨by decide, by decide, by decide +kernel⟩, Or.inl (nn_in 244 (by decide +kernel) rfl)⟩
theorem ci_TC_185 : Cond.instanceMethod yy_Tr_answer ∈ nn_TS ∧ Cond.selects yy_Tr_answer.cls yy_Tr_answer yy_Tr_answer ∈ nn_TS := ⟨(nn_in 245 (by decide +kernel) rfl), (nn_in 246 (by decide +kernel) rfl)⟩
theorem ff_TC_188 : mm_Fl "TabletCommits" 188 3 1 := ⟨by decide, by decide, Or.inr ⟨"TabletCommits", (nn_inN 85 (by decide +kernel) rfl)⟩⟩
theorem cs_TC_192 : mm_Cs "TabletCommits" 192 yy_TC_isLoose bb_TC_isLoose 3 (some .boolean) 1 := ⟨(nn_in 261 (by decide +kernel) rfl), (nn_in 1 (by decide +kernel) rfl), ⟨by decide, by decide, by decide +kernel⟩, Or.inl (nn_in 258 (by decide +kernel) rfl)⟩
theorem ci_TC_192 : Cond.instanceMethod yy_TC_isLoose ∈ nn_TS ∧ Cond.selects yy_TC_isLoose.cls yy_TC_isLoose yy_TC_isLoose ∈ nn_TS := ⟨(nn_in 260 (by decide +kernel) rfl), (nn_inp 3 (by decide +kernel) rfl)⟩
theorem cs_TC_196 : mm_Cs "TabletCommits" 196 yy_TC_asNumber bb_TC_asNumber 1 (some .int) 1 := ⟨(nn_in 250 (by decide +kernel) rfl), (nn_in 1 (by decide +kernel) rfl), ⟨by decide, by decide, by decide +kernel⟩, Or.inl (nn_in 262 (by decide +kernel) rfl)⟩
theorem ci_TC_196 : Cond.static yy_TC_asNumber ∈ nn_TS := (nn_in 249 (by decide +kernel) rfl)
theorem cs_TC_200 : mm_Cs "TabletCommits" 200 yy_Lo_answer bb_Lo_answer 2 (some .int) 1 := ⟨(nn_in 266 (by decide +kernel) rfl), (nn_in 16 (by decide +kernel) rfl), ⟨by decide, by decide, by decide +kernel⟩, Or.inl (nn_in 263 (by decide +kernel) rfl)⟩
theorem ci_TC_200 : Cond.instanceMethod yy_Lo_answer ∈ nn_TS ∧ Cond.selects yy_Lo_answer.cls yy_Lo_answer yy_Lo_answer ∈ nn_TS := ⟨(nn_in 264 (by decide +kernel) rfl), (nn_in 265 (by decide +kernel) rfl)⟩
theorem cs_TC_203 : mm_Cs "TabletCommits" 203 yy_Ce_versionAt bb_Ce_versionAt 4 (some (.object "TabletCommits$Version")) 1 := ⟨(nn_in 274 (by decide +kernel) rfl), (nn_in 5 (by decide +kernel) rfl), ⟨by decide, by decide, by decide +kernel⟩, Or.inl (nn_in 271 (by decide +kernel) rfl)⟩
theorem ci_TC_203 : Cond.instanceMethod yy_Ce_versionAt ∈ nn_TS ∧ Cond.selects yy_Ce_versionAt.cls yy_Ce_versionAt yy_Ce_versionAt ∈ nn_TS := ⟨(nn_in 272 (by decide +kernel) rfl), (nn_in 273 (by decide +kernel) rfl)⟩
theorem cs_TC_206 : mm_Cs "TabletCommits" 206 yy_Ve_answer bb_Ve_answer 2 (some .int) 1 := ⟨(nn_in 278 (by decide +kernel) rfl), (nn_in 15 (by decide +kernel) rfl), ⟨by decide, by decide, by decide +kernel⟩, Or.inl (nn_in 275 (by decide +kernel) rfl)⟩
theorem ci_TC_206 : Cond.instanceMethod yy_Ve_answer ∈ nn_TS ∧ Cond.selects yy_Ve_answer.cls yy_Ve_answer yy_Ve_answer ∈ nn_TS := ⟨(nn_in 276 (by decide +kernel) rfl), (nn_in 277 (by decide +kernel) rfl)⟩
theorem cs_TC_207 : mm_Cs "TabletCommits" 207 yy_Ta_answer bb_Ta_answer 2 (some .int) 1 := ⟨(nn_in 286 (by decide +kernel) rfl), (nn_in 4 (by decide +kernel) rfl), ⟨by decide, by decide, by decide +kernel⟩, Or.inl (nn_in 283 (by decide +kernel) rfl)⟩
theorem ci_TC_207 : Cond.instanceMethod yy_Ta_answer ∈ nn_TS ∧ Cond.selects yy_Ta_answer.cls yy_Ta_answer yy_Ta_answer ∈ nn_TS := ⟨(nn_in 284 (by decide +kernel) rfl), (nn_in 285 (by decide +kernel) rfl)⟩
theorem ff_TC_208 : mm_Fl "TabletCommits" 208 1 0 := ⟨by decide, by decide, Or.inr ⟨"TabletCommits", (nn_inN 38 (by decide +kernel) rfl)⟩⟩
theorem ff_TC_211 : mm_Fl "TabletCommits" 211 1 1 := ⟨by decide, by decide, Or.inr ⟨"TabletCommits", (nn_inN 40 (by decide +kernel) rfl)⟩⟩
theorem ff_TC_218 : mm_Fl "TabletCommits" 218 6 6 := ⟨by decide, by decide, Or.inr ⟨"TabletCommits", (nn_inN 115 (by decide +kernel) rfl)⟩⟩
theorem ff_TC_221 : mm_Fl "TabletCommits" 221 6 8 := ⟨by decide, by decide, Or.inr ⟨"TabletCommits", (nn_inN 118 (by decide +kernel) rfl)⟩⟩
theorem cs_TC_224 : mm_Cs "TabletCommits" 224 yy_TC_prewrite bb_TC_prewrite 4 (some .int) 1 := ⟨(nn_in 556 (by decide +kernel) rfl), (nn_in 1 (by decide +kernel) rfl), ⟨by decide, by decide, by decide +kernel⟩, Or.inl (nn_in 553 (by decide +kernel) rfl)⟩
theorem ci_TC_224 : Cond.instanceMethod yy_TC_prewrite ∈ nn_TS ∧ Cond.selects yy_TC_prewrite.cls yy_TC_prewrite yy_TC_prewrite ∈ nn_TS := ⟨(nn_in 555 (by decide +kernel) rfl), (nn_inp 9 (by decide +kernel) rfl)⟩
theorem ff_TC_227 : mm_Fl "TabletCommits" 227 6 5 := ⟨by decide, by decide, Or.inr ⟨"TabletCommits", (nn_inN 113 (by decide +kernel) rfl)⟩⟩
theorem ff_TC_230 : mm_Fl "TabletCommits" 230 6 10 := ⟨by decide, by decide, Or.inr ⟨"TabletCommits", (nn_inN 122 (by decide +kernel) rfl)⟩⟩
theorem cs_TC_233 : mm_Cs "TabletCommits" 233 yy_TC_follow bb_TC_follow 4 (some .int) 1 := ⟨(nn_in 619 (by decide +kernel) rfl), (nn_in 1 (by decide +kernel) rfl), ⟨by decide, by decide, by decide +kernel⟩, Or.inl (nn_in 616 (by decide +kernel) rfl)⟩
theorem ci_TC_233 : Cond.instanceMethod yy_TC_follow ∈ nn_TS ∧ Cond.selects yy_TC_follow.cls yy_TC_follow yy_TC_follow ∈ nn_TS := ⟨(nn_in 618 (by decide +kernel) rfl), (nn_inp 11 (by decide +kernel) rfl)⟩
theorem cs_TC_236 : mm_Cs "TabletCommits" 236 yy_TC_decide bb_TC_decide 3 (some .int) 1 := ⟨(nn_in 628 (by decide +kernel) rfl), (nn_in 1 (by decide +kernel) rfl), ⟨by decide, by decide, by decide +kernel⟩, Or.inl (nn_in 625 (by decide +kernel) rfl)⟩
theorem ci_TC_236 : Cond.instanceMethod yy_TC_decide ∈ nn_TS ∧ Cond.selects yy_TC_decide.cls yy_TC_decide yy_TC_decide ∈ nn_TS := ⟨(nn_in 627 (by decide +kernel) rfl), (nn_inp 12 (by decide +kernel) rfl)⟩
theorem cs_TC_239 : mm_Cs "TabletCommits" 239 yy_TC_leastOf bb_TC_leastOf 2 (some .int) 1 := ⟨(nn_in 559 (by decide +kernel) rfl), (nn_in 1 (by decide +kernel) rfl), ⟨by decide, by decide, by decide +kernel⟩, Or.inl (nn_in 557 (by decide +kernel) rfl)⟩
theorem ci_TC_239 : Cond.static yy_TC_leastOf ∈ nn_TS := (nn_in 558 (by decide +kernel) rfl)
theorem cs_TC_242 : mm_Cs "TabletCommits" 242 yy_Ce_isLockedBy bb_Ce_isLockedBy 2 (some .boolean) 1 := ⟨(nn_in 505 (by decide +kernel) rfl), (nn_in 5 (by decide +kernel) rfl), ⟨by decide, by decide, by decide +kernel⟩, Or.inl (nn_in 502 (by decide +kernel) rfl)⟩
theorem ci_TC_242 : Cond.instanceMethod yy_Ce_isLockedBy ∈ nn_TS ∧ Cond.selects yy_Ce_isLockedBy.cls yy_Ce_isLockedBy yy_Ce_isLockedBy ∈ nn_TS := ⟨(nn_in 503 (by decide +kernel) rfl), (nn_in 504 (by decide +kernel) rfl)⟩
theorem cs_TC_245 : mm_Cs "TabletCommits" 245 yy_TC_takeLock bb_TC_takeLock 4 (some .int) 2 := ⟨(nn_in 563 (by decide +kernel) rfl), (nn_in 1 (by decide +kernel) rfl), ⟨by decide, by decide, by decide +kernel⟩, Or.inl (nn_in 560 (by decide +kernel) rfl)⟩
theorem ci_TC_245 : Cond.instanceMethod yy_TC_takeLock ∈ nn_TS ∧ Cond.selects yy_TC_takeLock.cls yy_TC_takeLock yy_TC_takeLock ∈ nn_TS := ⟨(nn_in 562 (by decide +kernel) rfl), (nn_inp 10 (by decide +kernel) rfl)⟩
theorem cs_TC_249 : mm_Cs "TabletCommits" 249 yy_Ce_overtakes bb_Ce_overtakes 3 (some .boolean) 1 := ⟨(nn_in 567 (by decide +kernel) rfl), (nn_in 5 (by decide +kernel) rfl), ⟨by decide, by decide, by decide +kernel⟩, Or.inl (nn_in 564 (by decide +kernel) rfl)⟩
theorem ci_TC_249 : Cond.instanceMethod yy_Ce_overtakes ∈ nn_TS ∧ Cond.selects yy_Ce_overtakes.cls yy_Ce_overtakes yy_Ce_overtakes ∈ nn_TS := ⟨(nn_in 565 (by decide +kernel) rfl), (nn_in 566 (by decide +kernel) rfl)⟩
theorem cs_TC_252 : mm_Cs "TabletCommits" 252 yy_TC_endByConflict bb_TC_endByConflict 1 (some .int) 1 := ⟨(nn_in 570 (by decide +kernel) rfl), (nn_in 1 (by decide +kernel) rfl), ⟨by decide, by decide, by decide +kernel⟩, Or.inl (nn_in 568 (by decide +kernel) rfl)⟩
theorem ci_TC_252 : Cond.static yy_TC_endByConflict ∈ nn_TS := (nn_in 569 (by decide +kernel) rfl)
theorem cs_TC_255 : mm_Cs "TabletCommits" 255 yy_Tr_lockFor bb_Tr_lockFor 3 (some (.object "TabletCommits$Lock")) 2 := ⟨(nn_in 574 (by decide +kernel) rfl), (nn_in 6 (by decide +kernel) rfl), ⟨by decide, by decide, by decide +kernel⟩, Or.inl (nn_in 571 (by decide +kernel) rfl)⟩
theorem ci_TC_255 : Cond.instanceMethod yy_Tr_lockFor ∈ nn_TS ∧ Cond.selects yy_Tr_lockFor.cls yy_Tr_lockFor yy_Tr_lockFor ∈ nn_TS := ⟨(nn_in 572 (by decide +kernel) rfl), (nn_in 573 (by decide +kernel) rfl)⟩
theorem cs_TC_259 : mm_Cs "TabletCommits" 259 yy_Ce_writeLock bb_Ce_writeLock 2 (some .boolean) 1 := ⟨(nn_in 615 (by decide +kernel) rfl), (nn_in 5 (by decide +kernel) rfl), ⟨by decide, by decide, by decide +kernel⟩, Or.inl (nn_in 612 (by decide +kernel) rfl)⟩
theorem ci_TC_259 : Cond.instanceMethod yy_Ce_writeLock ∈ nn_TS ∧ Cond.selects yy_Ce_writeLock.cls yy_Ce_writeLock yy_Ce_writeLock ∈ nn_TS := ⟨(nn_in 613 (by decide +kernel) rfl), (nn_in 614 (by decide +kernel) rfl)⟩
theorem cs_TC_262 : mm_Cs "TabletCommits" 262 yy_Tr_primary bb_Tr_primary 1 (some .int) 0 := ⟨(nn_in 580 (by decide +kernel) rfl), (nn_in 6 (by decide +kernel) rfl), ⟨by decide, by decide, by decide +kernel⟩, Or.inl (nn_in 629 (by decide +kernel) rfl)⟩
theorem ci_TC_262 : Cond.instanceMethod yy_Tr_primary ∈ nn_TS ∧ Cond.selects yy_Tr_primary.cls yy_Tr_primary yy_Tr_primary ∈ nn_TS := ⟨(nn_in 578 (by decide +kernel) rfl), (nn_in 579 (by decide +kernel) rfl)⟩
theorem cs_TC_265 : mm_Cs "TabletCommits" 265 yy_Ce_versionWrittenBy bb_Ce_versionWrittenBy 3 (some (.object "TabletCommits$Version")) 1 := ⟨(nn_in 463 (by decide +kernel) rfl), (nn_in 5 (by decide +kernel) rfl), ⟨by decide, by decide, by decide +kernel⟩, Or.inl (nn_in 460 (by decide +kernel) rfl)⟩
theorem ci_TC_265 : Cond.instanceMethod yy_Ce_versionWrittenBy ∈ nn_TS ∧ Cond.selects yy_Ce_versionWrittenBy.cls yy_Ce_versionWrittenBy yy_Ce_versionWrittenBy ∈ nn_TS := ⟨(nn_in 461 (by decide +kernel) rfl), (nn_in 462 (by decide +kernel) rfl)⟩
theorem cs_TC_268 : mm_Cs "TabletCommits" 268 yy_Ce_writeDone bb_Ce_writeDone 2 (some .boolean) 1 := ⟨(nn_in 467 (by decide +kernel) rfl), (nn_in 5 (by decide +kernel) rfl), ⟨by decide, by decide, by decide +kernel⟩, Or.inl (nn_in 464 (by decide +kernel) rfl)⟩
theorem ci_TC_268 : Cond.instanceMethod yy_Ce_writeDone ∈ nn_TS ∧ Cond.selects yy_Ce_writeDone.cls yy_Ce_writeDone yy_Ce_writeDone ∈ nn_TS := ⟨(nn_in 465 (by decide +kernel) rfl), (nn_in 466 (by decide +kernel) rfl)⟩
theorem ff_TC_271 : mm_Fl "TabletCommits" 271 6 9 := ⟨by decide, by decide, Or.inr ⟨"TabletCommits", (nn_inN 120 (by decide +kernel) rfl)⟩⟩
theorem cs_TC_274 : mm_Cs "TabletCommits" 274 yy_Tr_endIfAllFollowed bb_Tr_endIfAllFollowed 1 (some .boolean) 0 := ⟨(nn_in 623 (by decide +kernel) rfl), (nn_in 6 (by decide +kernel) rfl), ⟨by decide, by decide, by decide +kernel⟩, Or.inl (nn_in 620 (by decide +kernel) rfl)⟩
theorem ci_TC_274 : Cond.instanceMethod yy_Tr_endIfAllFollowed ∈ nn_TS ∧ Cond.selects yy_Tr_endIfAllFollowed.cls yy_Tr_endIfAllFollowed yy_Tr_endIfAllFollowed ∈ nn_TS := ⟨(nn_in 621 (by decide +kernel) rfl), (nn_in 622 (by decide +kernel) rfl)⟩
theorem ff_TC_278 : mm_Fl "TabletCommits" 278 4 1 := ⟨by decide, by decide, Or.inr ⟨"TabletCommits", (nn_inN 590 (by decide +kernel) rfl)⟩⟩
theorem ff_TC_280 : mm_Fl "TabletCommits" 280 4 0 := ⟨by decide, by decide, Or.inr ⟨"TabletCommits", (nn_inN 588 (by decide +kernel) rfl)⟩⟩
theorem ff_TC_281 : mm_Fl "TabletCommits" 281 5 0 := ⟨by decide, by decide, Or.inr ⟨"TabletCommits", (nn_inN 477 (by decide +kernel) rfl)⟩⟩
theorem cs_TC_284 : mm_Cs "TabletCommits" 284 yy_Ce_writeVoid bb_Ce_writeVoid 2 (some .boolean) 1 := ⟨(nn_in 509 (by decide +kernel) rfl), (nn_in 5 (by decide +kernel) rfl), ⟨by decide, by decide, by decide +kernel⟩, Or.inl (nn_in 506 (by decide +kernel) rfl)⟩
theorem ci_TC_284 : Cond.instanceMethod yy_Ce_writeVoid ∈ nn_TS ∧ Cond.selects yy_Ce_writeVoid.cls yy_Ce_writeVoid yy_Ce_writeVoid ∈ nn_TS := ⟨(nn_in 507 (by decide +kernel) rfl), (nn_in 508 (by decide +kernel) rfl)⟩
theorem ff_TC_287 : mm_Fl "TabletCommits" 287 4 2 := ⟨by decide, by decide, Or.inr ⟨"TabletCommits", (nn_inN 592 (by decide +kernel) rfl)⟩⟩
theorem ff_TC_290 : mm_Fl "TabletCommits" 290 4 3 := ⟨by decide, by decide, Or.inr ⟨"TabletCommits", (nn_inN 594 (by decide +kernel) rfl)⟩⟩
theorem cs_TC_293 : mm_Cs "TabletCommits" 293 yy_Ta_putsIntoLog bb_Ta_putsIntoLog 3 (some .boolean) 0 := ⟨(nn_in 231 (by decide +kernel) rfl), (nn_in 4 (by decide +kernel) rfl), ⟨by decide, by decide, by decide +kernel⟩, Or.inl (nn_in 228 (by decide +kernel) rfl)⟩
theorem ci_TC_293 : Cond.instanceMethod yy_Ta_putsIntoLog ∈ nn_TS ∧ Cond.selects yy_Ta_putsIntoLog.cls yy_Ta_putsIntoLog yy_Ta_putsIntoLog ∈ nn_TS := ⟨(nn_in 229 (by decide +kernel) rfl), (nn_in 230 (by decide +kernel) rfl)⟩
theorem cs_TC_296 : mm_Cs "TabletCommits" 296 yy_Ce_forgetBefore bb_Ce_forgetBefore 6 none 1 := ⟨(nn_in 235 (by decide +kernel) rfl), (nn_in 5 (by decide +kernel) rfl), ⟨by decide, by decide, by decide +kernel⟩, Or.inl (nn_in 232 (by decide +kernel) rfl)⟩
theorem ci_TC_296 : Cond.instanceMethod yy_Ce_forgetBefore ∈ nn_TS ∧ Cond.selects yy_Ce_forgetBefore.cls yy_Ce_forgetBefore yy_Ce_forgetBefore ∈ nn_TS := ⟨(nn_in 233 (by decide +kernel) rfl), (nn_in 234 (by decide +kernel) rfl)⟩
theorem oi_Or_3 : Cond.methodLink "TabletCommits$Oracle" 3 Lib.objectInit ∈ nn_TS ∧ Cond.instanceMethod Lib.objectInit ∈ nn_TS ∧ Cond.code Lib.objectInit ⟨#[0xb1]⟩ 1 none ∈ nn_TS := ⟨(nn_in 36 (by decide +kernel) rfl), (nn_in 23 (by decide +kernel) rfl), (nn_in 24 (by decide +kernel) rfl)⟩
theorem ff_Or_9 : mm_Fl "TabletCommits$Oracle" 9 1 0 := ⟨by decide, by decide, Or.inl (nn_in 37 (by decide +kernel) rfl)⟩
theorem ff_Or_15 : mm_Fl "TabletCommits$Oracle" 15 1 1 := ⟨by decide, by decide, Or.inl (nn_in 39 (by decide +kernel) rfl)⟩
theorem oi_Ta_3 : Cond.methodLink "TabletCommits$Tablet" 3 Lib.objectInit ∈ nn_TS ∧ Cond.instanceMethod Lib.objectInit ∈ nn_TS ∧ Cond.code Lib.objectInit ⟨#[0xb1]⟩ 1 none ∈ nn_TS := ⟨(nn_in 52 (by decide +kernel) rfl), (nn_in 23 (by decide +kernel) rfl), (nn_in 24 (by decide +kernel) rfl)⟩
theorem ff_Ta_9 : mm_Fl "TabletCommits$Tablet" 9 2 0 := ⟨by decide, by decide, Or.inl (nn_in 53 (by decide +kernel) rfl)⟩
theorem ff_Ta_15 : mm_Fl "TabletCommits$Tablet" 15 2 1 := ⟨by decide, by decide, Or.inl (nn_in 56 (by decide +kernel) rfl)⟩
theorem ff_Ta_19 : mm_Fl "TabletCommits$Tablet" 19 2 2 := ⟨by decide, by decide, Or.inl (nn_in 58 (by decide +kernel) rfl)⟩
theorem ff_Ta_22 : mm_Fl "TabletCommits$Tablet" 22 2 3 := ⟨by decide, by decide, Or.inl (nn_in 59 (by decide +kernel) rfl)⟩
theorem ff_Ta_25 : mm_Fl "TabletCommits$Tablet" 25 2 4 := ⟨by decide, by decide, Or.inl (nn_in 60 (by decide +kernel) rfl)⟩
theorem ff_Ta_28 : mm_Fl "TabletCommits$Tablet" 28 2 5 := ⟨by decide, by decide, Or.inl (nn_in 61 (by decide +kernel) rfl)⟩
theorem oi_Ce_3 : Cond.methodLink "TabletCommits$Cell" 3 Lib.objectInit ∈ nn_TS ∧ Cond.instanceMethod Lib.objectInit ∈ nn_TS ∧ Cond.code Lib.objectInit ⟨#[0xb1]⟩ 1 none ∈ nn_TS := ⟨(nn_in 81 (by decide +kernel) rfl), (nn_in 23 (by decide +kernel) rfl), (nn_in 24 (by decide +kernel) rfl)⟩
theorem ff_Ce_9 : mm_Fl "TabletCommits$Cell" 9 3 1 := ⟨by decide, by decide, Or.inl (nn_in 84 (by decide +kernel) rfl)⟩
theorem ff_Ce_15 : mm_Fl "TabletCommits$Cell" 15 3 2 := ⟨by decide, by decide, Or.inl (nn_in 86 (by decide +kernel) rfl)⟩
theorem ff_Ce_19 : mm_Fl "TabletCommits$Cell" 19 3 3 := ⟨by decide, by decide, Or.inl (nn_in 87 (by decide +kernel) rfl)⟩
theorem ff_Ce_23 : mm_Fl "TabletCommits$Cell" 23 3 0 := ⟨by decide, by decide, Or.inl (nn_in 82 (by decide +kernel) rfl)⟩
theorem fg_Ce_23 : mm_Ff "TabletCommits$Cell" 23 3 0 := ⟨by decide, by decide, (nn_in 82 (by decide +kernel) rfl), rfl, rfl⟩
theorem ff_Ce_27 : mm_Fl "TabletCommits$Cell" 27 4 0 := ⟨by decide, by decide, Or.inr ⟨"TabletCommits", (nn_inN 587 (by decide +kernel) rfl)⟩⟩
theorem cs_Ce_32 : mm_Cs "TabletCommits$Cell" 32 yy_Ta_putsIntoLog bb_Ta_putsIntoLog 3 (some .boolean) 0 := ⟨(nn_in 231 (by decide +kernel) rfl), (nn_in 4 (by decide +kernel) rfl), ⟨by decide, by decide, by decide +kernel⟩, Or.inl (nn_in 468 (by decide +kernel) rfl)⟩
theorem ci_Ce_32 : Cond.instanceMethod yy_Ta_putsIntoLog ∈ nn_TS ∧ Cond.selects yy_Ta_putsIntoLog.cls yy_Ta_putsIntoLog yy_Ta_putsIntoLog ∈ nn_TS := ⟨(nn_in 229 (by decide +kernel) rfl), (nn_in 230 (by decide +kernel) rfl)⟩
theorem ff_Ce_38 : mm_Fl "TabletCommits$Cell" 38 2 0 := ⟨by decide, by decide, Or.inr ⟨"TabletCommits", (nn_inN 55 (by decide +kernel) rfl)⟩⟩
theorem cl_Ce_42 : Cond.classLink "TabletCommits$Cell" 42 (nn_C 5) ∈ nn_TS := (nn_in 469 (by decide +kernel) rfl)
theorem ff_Ce_44 : mm_Fl "TabletCommits$Cell" 44 4 4 := ⟨by decide, by decide, Or.inr ⟨"TabletCommits", (nn_inN 596 (by decide +kernel) rfl)⟩⟩
theorem ff_Ce_47 : mm_Fl "TabletCommits$Cell" 47 4 5 := ⟨by decide, by decide, Or.inr ⟨"TabletCommits", (nn_inN 598 (by decide +kernel) rfl)⟩⟩
theorem cs_Ce_50 : mm_Cs "TabletCommits$Cell" 50 yy_Ve_init bb_Ve_init 5 none 4 := ⟨(nn_in 473 (by decide +kernel) rfl), (nn_in 15 (by decide +kernel) rfl), ⟨by decide, by decide, by decide +kernel⟩, Or.inl (nn_in 471 (by decide +kernel) rfl)⟩
theorem ci_Ce_50 : Cond.instanceMethod yy_Ve_init ∈ nn_TS ∧ yy_Ve_init.name = "<init>" := ⟨(nn_in 472 (by decide +kernel) rfl), rfl⟩
theorem cs_Ce_53 : mm_Cs "TabletCommits$Cell" 53 yy_Ce_keep bb_Ce_keep 4 none 1 := ⟨(nn_in 501 (by decide +kernel) rfl), (nn_in 5 (by decide +kernel) rfl), ⟨by decide, by decide, by decide +kernel⟩, Or.inl (nn_in 498 (by decide +kernel) rfl)⟩
theorem ci_Ce_53 : Cond.instanceMethod yy_Ce_keep ∈ nn_TS ∧ Cond.selects yy_Ce_keep.cls yy_Ce_keep yy_Ce_keep ∈ nn_TS := ⟨(nn_in 500 (by decide +kernel) rfl), (nn_inp 7 (by decide +kernel) rfl)⟩
theorem cs_Ce_57 : mm_Cs "TabletCommits$Cell" 57 yy_Ce_isLockedBy bb_Ce_isLockedBy 2 (some .boolean) 1 := ⟨(nn_in 505 (by decide +kernel) rfl), (nn_in 5 (by decide +kernel) rfl), ⟨by decide, by decide, by decide +kernel⟩, Or.inl (nn_in 510 (by decide +kernel) rfl)⟩
theorem ci_Ce_57 : Cond.instanceMethod yy_Ce_isLockedBy ∈ nn_TS ∧ Cond.selects yy_Ce_isLockedBy.cls yy_Ce_isLockedBy yy_Ce_isLockedBy ∈ nn_TS := ⟨(nn_in 503 (by decide +kernel) rfl), (nn_in 504 (by decide +kernel) rfl)⟩
theorem ff_Ce_61 : mm_Fl "TabletCommits$Cell" 61 5 2 := ⟨by decide, by decide, Or.inr ⟨"TabletCommits", (nn_inN 482 (by decide +kernel) rfl)⟩⟩
theorem ff_Ce_64 : mm_Fl "TabletCommits$Cell" 64 5 1 := ⟨by decide, by decide, Or.inr ⟨"TabletCommits", (nn_inN 479 (by decide +kernel) rfl)⟩⟩
theorem ff_Ce_65 : mm_Fl "TabletCommits$Cell" 65 5 0 := ⟨by decide, by decide, Or.inr ⟨"TabletCommits", (nn_inN 476 (by decide +kernel) rfl)⟩⟩
theorem ff_Ce_68 : mm_Fl "TabletCommits$Cell" 68 5 4 := ⟨by decide, by decide, Or.inr ⟨"TabletCommits", (nn_inN 486 (by decide +kernel) rfl)⟩⟩
theorem cs_Ce_71 : mm_Cs "TabletCommits$Cell" 71 yy_Ce_removeBehind bb_Ce_removeBehind 3 none 2 := ⟨(nn_in 239 (by decide +kernel) rfl), (nn_in 5 (by decide +kernel) rfl), ⟨by decide, by decide, by decide +kernel⟩, Or.inl (nn_in 236 (by decide +kernel) rfl)⟩
theorem ci_Ce_71 : Cond.instanceMethod yy_Ce_removeBehind ∈ nn_TS ∧ Cond.selects yy_Ce_removeBehind.cls yy_Ce_removeBehind yy_Ce_removeBehind ∈ nn_TS := ⟨(nn_in 238 (by decide +kernel) rfl), (nn_inp 2 (by decide +kernel) rfl)⟩
theorem oi_Lo_3 : Cond.methodLink "TabletCommits$Lock" 3 Lib.objectInit ∈ nn_TS ∧ Cond.instanceMethod Lib.objectInit ∈ nn_TS ∧ Cond.code Lib.objectInit ⟨#[0xb1]⟩ 1 none ∈ nn_TS := ⟨(nn_in 585 (by decide +kernel) rfl), (nn_in 23 (by decide +kernel) rfl), (nn_in 24 (by decide +kernel) rfl)⟩
theorem ff_Lo_9 : mm_Fl "TabletCommits$Lock" 9 4 0 := ⟨by decide, by decide, Or.inl (nn_in 586 (by decide +kernel) rfl)⟩
theorem fg_Lo_9 : mm_Ff "TabletCommits$Lock" 9 4 0 := ⟨by decide, by decide, (nn_in 586 (by decide +kernel) rfl), rfl, rfl⟩
theorem ff_Lo_15 : mm_Fl "TabletCommits$Lock" 15 4 1 := ⟨by decide, by decide, Or.inl (nn_in 589 (by decide +kernel) rfl)⟩
theorem fg_Lo_15 : mm_Ff "TabletCommits$Lock" 15 4 1 := ⟨by decide, by decide, (nn_in 589 (by decide +kernel) rfl), rfl, rfl⟩
theorem ff_Lo_18 : mm_Fl "TabletCommits$Lock" 18 4 2 := ⟨by decide, by decide, Or.inl (nn_in 591 (by decide +kernel) rfl)⟩
theorem fg_Lo_18 : mm_Ff "TabletCommits$Lock" 18 4 2 := ⟨by decide, by decide, (nn_in 591 (by decide +kernel) rfl), rfl, rfl⟩
theorem ff_Lo_21 : mm_Fl "TabletCommits$Lock" 21 4 3 := ⟨by decide, by decide, Or.inl (nn_in 593 (by decide +kernel) rfl)⟩
theorem fg_Lo_21 : mm_Ff "TabletCommits$Lock" 21 4 3 := ⟨by decide, by decide, (nn_in 593 (by decide +kernel) rfl), rfl, rfl⟩
theorem ff_Lo_24 : mm_Fl "TabletCommits$Lock" 24 4 4 := ⟨by decide, by decide, Or.inl (nn_in 595 (by decide +kernel) rfl)⟩
theorem fg_Lo_24 : mm_Ff "TabletCommits$Lock" 24 4 4 := ⟨by decide, by decide, (nn_in 595 (by decide +kernel) rfl), rfl, rfl⟩
theorem ff_Lo_28 : mm_Fl "TabletCommits$Lock" 28 4 5 := ⟨by decide, by decide, Or.inl (nn_in 597 (by decide +kernel) rfl)⟩
theorem fg_Lo_28 : mm_Ff "TabletCommits$Lock" 28 4 5 := ⟨by decide, by decide, (nn_in 597 (by decide +kernel) rfl), rfl, rfl⟩
theorem oi_Ve_3 : Cond.methodLink "TabletCommits$Version" 3 Lib.objectInit ∈ nn_TS ∧ Cond.instanceMethod Lib.objectInit ∈ nn_TS ∧ Cond.code Lib.objectInit ⟨#[0xb1]⟩ 1 none ∈ nn_TS := ⟨(nn_in 474 (by decide +kernel) rfl), (nn_in 23 (by decide +kernel) rfl), (nn_in 24 (by decide +kernel) rfl)⟩
theorem ff_Ve_9 : mm_Fl "TabletCommits$Version" 9 5 4 := ⟨by decide, by decide, Or.inl (nn_in 485 (by decide +kernel) rfl)⟩
theorem ff_Ve_15 : mm_Fl "TabletCommits$Version" 15 5 0 := ⟨by decide, by decide, Or.inl (nn_in 475 (by decide +kernel) rfl)⟩
theorem fg_Ve_15 : mm_Ff "TabletCommits$Version" 15 5 0 := ⟨by decide, by decide, (nn_in 475 (by decide +kernel) rfl), rfl, rfl⟩
theorem ff_Ve_19 : mm_Fl "TabletCommits$Version" 19 5 1 := ⟨by decide, by decide, Or.inl (nn_in 478 (by decide +kernel) rfl)⟩
theorem fg_Ve_19 : mm_Ff "TabletCommits$Version" 19 5 1 := ⟨by decide, by decide, (nn_in 478 (by decide +kernel) rfl), rfl, rfl⟩
theorem ff_Ve_22 : mm_Fl "TabletCommits$Version" 22 5 2 := ⟨by decide, by decide, Or.inl (nn_in 480 (by decide +kernel) rfl)⟩
theorem fg_Ve_22 : mm_Ff "TabletCommits$Version" 22 5 2 := ⟨by decide, by decide, (nn_in 480 (by decide +kernel) rfl), rfl, rfl⟩
theorem ff_Ve_25 : mm_Fl "TabletCommits$Version" 25 5 3 := ⟨by decide, by decide, Or.inl (nn_in 483 (by decide +kernel) rfl)⟩
theorem fg_Ve_25 : mm_Ff "TabletCommits$Version" 25 5 3 := ⟨by decide, by decide, (nn_in 483 (by decide +kernel) rfl), rfl, rfl⟩
theorem oi_Tr_3 : Cond.methodLink "TabletCommits$Transaction" 3 Lib.objectInit ∈ nn_TS ∧ Cond.instanceMethod Lib.objectInit ∈ nn_TS ∧ Cond.code Lib.objectInit ⟨#[0xb1]⟩ 1 none ∈ nn_TS := ⟨(nn_in 103 (by decide +kernel) rfl), (nn_in 23 (by decide +kernel) rfl), (nn_in 24 (by decide +kernel) rfl)⟩
theorem ff_Tr_9 : mm_Fl "TabletCommits$Transaction" 9 6 2 := ⟨by decide, by decide, Or.inl (nn_in 106 (by decide +kernel) rfl)⟩
theorem ff_Tr_15 : mm_Fl "TabletCommits$Transaction" 15 6 3 := ⟨by decide, by decide, Or.inl (nn_in 108 (by decide +kernel) rfl)⟩
theorem ff_Tr_18 : mm_Fl "TabletCommits$Transaction" 18 6 4 := ⟨by decide, by decide, Or.inl (nn_in 110 (by decide +kernel) rfl)⟩
theorem ff_Tr_22 : mm_Fl "TabletCommits$Transaction" 22 6 5 := ⟨by decide, by decide, Or.inl (nn_in 112 (by decide +kernel) rfl)⟩
theorem ff_Tr_25 : mm_Fl "TabletCommits$Transaction" 25 6 6 := ⟨by decide, by decide, Or.inl (nn_in 114 (by decide +kernel) rfl)⟩
theorem ff_Tr_28 : mm_Fl "TabletCommits$Transaction" 28 6 7 := ⟨by decide, by decide, Or.inl (nn_in 116 (by decide +kernel) rfl)⟩
theorem ff_Tr_31 : mm_Fl "TabletCommits$Transaction" 31 6 8 := ⟨by decide, by decide, Or.inl (nn_in 117 (by decide +kernel) rfl)⟩
theorem ff_Tr_34 : mm_Fl "TabletCommits$Transaction" 34 6 9 := ⟨by decide, by decide, Or.inl (nn_in 119 (by decide +kernel) rfl)⟩
theorem ff_Tr_37 : mm_Fl "TabletCommits$Transaction" 37 6 10 := ⟨by decide, by decide, Or.inl (nn_in 121 (by decide +kernel) rfl)⟩
theorem ff_Tr_40 : mm_Fl "TabletCommits$Transaction" 40 6 0 := ⟨by decide, by decide, Or.inl (nn_in 104 (by decide +kernel) rfl)⟩
theorem fg_Tr_40 : mm_Ff "TabletCommits$Transaction" 40 6 0 := ⟨by decide, by decide, (nn_in 104 (by decide +kernel) rfl), rfl, rfl⟩
theorem ff_Tr_43 : mm_Fl "TabletCommits$Transaction" 43 6 1 := ⟨by decide, by decide, Or.inl (nn_in 105 (by decide +kernel) rfl)⟩
theorem fg_Tr_43 : mm_Ff "TabletCommits$Transaction" 43 6 1 := ⟨by decide, by decide, (nn_in 105 (by decide +kernel) rfl), rfl, rfl⟩
theorem cs_Tr_47 : mm_Cs "TabletCommits$Transaction" 47 yy_Tr_erases bb_Tr_erases 2 (some .boolean) 1 := ⟨(nn_in 422 (by decide +kernel) rfl), (nn_in 6 (by decide +kernel) rfl), ⟨by decide, by decide, by decide +kernel⟩, Or.inl (nn_in 419 (by decide +kernel) rfl)⟩
theorem ci_Tr_47 : Cond.instanceMethod yy_Tr_erases ∈ nn_TS ∧ Cond.selects yy_Tr_erases.cls yy_Tr_erases yy_Tr_erases ∈ nn_TS := ⟨(nn_in 420 (by decide +kernel) rfl), (nn_in 421 (by decide +kernel) rfl)⟩
theorem cs_Tr_58 : mm_Cs "TabletCommits$Transaction" 58 yy_TC_leastOf bb_TC_leastOf 2 (some .int) 1 := ⟨(nn_in 559 (by decide +kernel) rfl), (nn_in 1 (by decide +kernel) rfl), ⟨by decide, by decide, by decide +kernel⟩, Or.inr ⟨"TabletCommits", (nn_inN 581 (by decide +kernel) rfl)⟩⟩
theorem ci_Tr_58 : Cond.static yy_TC_leastOf ∈ nn_TS := (nn_in 558 (by decide +kernel) rfl)
theorem cl_Tr_62 : Cond.classLink "TabletCommits$Transaction" 62 (nn_C 4) ∈ nn_TS := (nn_in 575 (by decide +kernel) rfl)
theorem cs_Tr_64 : mm_Cs "TabletCommits$Transaction" 64 yy_Tr_primary bb_Tr_primary 1 (some .int) 0 := ⟨(nn_in 580 (by decide +kernel) rfl), (nn_in 6 (by decide +kernel) rfl), ⟨by decide, by decide, by decide +kernel⟩, Or.inl (nn_in 577 (by decide +kernel) rfl)⟩
theorem ci_Tr_64 : Cond.instanceMethod yy_Tr_primary ∈ nn_TS ∧ Cond.selects yy_Tr_primary.cls yy_Tr_primary yy_Tr_primary ∈ nn_TS := ⟨(nn_in 578 (by decide +kernel) rfl), (nn_in 579 (by decide +kernel) rfl)⟩
theorem cs_Tr_68 : mm_Cs "TabletCommits$Transaction" 68 yy_Lo_init bb_Lo_init 7 none 6 := ⟨(nn_in 584 (by decide +kernel) rfl), (nn_in 16 (by decide +kernel) rfl), ⟨by decide, by decide, by decide +kernel⟩, Or.inl (nn_in 582 (by decide +kernel) rfl)⟩
theorem ci_Tr_68 : Cond.instanceMethod yy_Lo_init ∈ nn_TS ∧ yy_Lo_init.name = "<init>" := ⟨(nn_in 583 (by decide +kernel) rfl), rfl⟩
theorem cs_Tr_71 : mm_Cs "TabletCommits$Transaction" 71 yy_Tr_end bb_Tr_end 1 none 0 := ⟨(nn_in 176 (by decide +kernel) rfl), (nn_in 6 (by decide +kernel) rfl), ⟨by decide, by decide, by decide +kernel⟩, Or.inl (nn_in 624 (by decide +kernel) rfl)⟩
theorem ci_Tr_71 : Cond.instanceMethod yy_Tr_end ∈ nn_TS ∧ Cond.selects yy_Tr_end.cls yy_Tr_end yy_Tr_end ∈ nn_TS := ⟨(nn_in 174 (by decide +kernel) rfl), (nn_in 175 (by decide +kernel) rfl)⟩
theorem cs_Tr_74 : mm_Cs "TabletCommits$Transaction" 74 yy_TC_asNumber bb_TC_asNumber 1 (some .int) 1 := ⟨(nn_in 250 (by decide +kernel) rfl), (nn_in 1 (by decide +kernel) rfl), ⟨by decide, by decide, by decide +kernel⟩, Or.inr ⟨"TabletCommits", (nn_inN 248 (by decide +kernel) rfl)⟩⟩
theorem ci_Tr_74 : Cond.static yy_TC_asNumber ∈ nn_TS := (nn_in 249 (by decide +kernel) rfl)
theorem oi_Mo_1 : Cond.methodLink "TabletCommitsModel" 1 Lib.objectInit ∈ nn_TS ∧ Cond.instanceMethod Lib.objectInit ∈ nn_TS ∧ Cond.code Lib.objectInit ⟨#[0xb1]⟩ 1 none ∈ nn_TS := ⟨(nn_in 643 (by decide +kernel) rfl), (nn_in 23 (by decide +kernel) rfl), (nn_in 24 (by decide +kernel) rfl)⟩
theorem ff_Mo_7 : mm_Fl "TabletCommitsModel" 7 7 3 := ⟨by decide, by decide, Or.inl (nn_in 647 (by decide +kernel) rfl)⟩
theorem ff_Mo_13 : mm_Fl "TabletCommitsModel" 13 7 5 := ⟨by decide, by decide, Or.inl (nn_in 649 (by decide +kernel) rfl)⟩
theorem fg_Mo_13 : mm_Ff "TabletCommitsModel" 13 7 5 := ⟨by decide, by decide, (nn_in 649 (by decide +kernel) rfl), rfl, rfl⟩
theorem ff_Mo_17 : mm_Fl "TabletCommitsModel" 17 7 6 := ⟨by decide, by decide, Or.inl (nn_in 650 (by decide +kernel) rfl)⟩
theorem fg_Mo_17 : mm_Ff "TabletCommitsModel" 17 7 6 := ⟨by decide, by decide, (nn_in 650 (by decide +kernel) rfl), rfl, rfl⟩
theorem ff_Mo_20 : mm_Fl "TabletCommitsModel" 20 7 7 := ⟨by decide, by decide, Or.inl (nn_in 651 (by decide +kernel) rfl)⟩
theorem fg_Mo_20 : mm_Ff "TabletCommitsModel" 20 7 7 := ⟨by decide, by decide, (nn_in 651 (by decide +kernel) rfl), rfl, rfl⟩
theorem ff_Mo_23 : mm_Fl "TabletCommitsModel" 23 7 8 := ⟨by decide, by decide, Or.inl (nn_in 652 (by decide +kernel) rfl)⟩
theorem fg_Mo_23 : mm_Ff "TabletCommitsModel" 23 7 8 := ⟨by decide, by decide, (nn_in 652 (by decide +kernel) rfl), rfl, rfl⟩
theorem ff_Mo_26 : mm_Fl "TabletCommitsModel" 26 7 9 := ⟨by decide, by decide, Or.inl (nn_in 653 (by decide +kernel) rfl)⟩
theorem fg_Mo_26 : mm_Ff "TabletCommitsModel" 26 7 9 := ⟨by decide, by decide, (nn_in 653 (by decide +kernel) rfl), rfl, rfl⟩
theorem ff_Mo_29 : mm_Fl "TabletCommitsModel" 29 7 10 := ⟨by decide, by decide, Or.inl (nn_in 654 (by decide +kernel) rfl)⟩
theorem fg_Mo_29 : mm_Ff "TabletCommitsModel" 29 7 10 := ⟨by decide, by decide, (nn_in 654 (by decide +kernel) rfl), rfl, rfl⟩
theorem ff_Mo_32 : mm_Fl "TabletCommitsModel" 32 7 12 := ⟨by decide, by decide, Or.inl (nn_in 656 (by decide +kernel) rfl)⟩
theorem fg_Mo_32 : mm_Ff "TabletCommitsModel" 32 7 12 := ⟨by decide, by decide, (nn_in 656 (by decide +kernel) rfl), rfl, rfl⟩
theorem ff_Mo_35 : mm_Fl "TabletCommitsModel" 35 7 13 := ⟨by decide, by decide, Or.inl (nn_in 657 (by decide +kernel) rfl)⟩
theorem fg_Mo_35 : mm_Ff "TabletCommitsModel" 35 7 13 := ⟨by decide, by decide, (nn_in 657 (by decide +kernel) rfl), rfl, rfl⟩
theorem ff_Mo_38 : mm_Fl "TabletCommitsModel" 38 7 14 := ⟨by decide, by decide, Or.inl (nn_in 658 (by decide +kernel) rfl)⟩
theorem fg_Mo_38 : mm_Ff "TabletCommitsModel" 38 7 14 := ⟨by decide, by decide, (nn_in 658 (by decide +kernel) rfl), rfl, rfl⟩
theorem ff_Mo_41 : mm_Fl "TabletCommitsModel" 41 7 15 := ⟨by decide, by decide, Or.inl (nn_in 659 (by decide +kernel) rfl)⟩
theorem fg_Mo_41 : mm_Ff "TabletCommitsModel" 41 7 15 := ⟨by decide, by decide, (nn_in 659 (by decide +kernel) rfl), rfl, rfl⟩
theorem ff_Mo_44 : mm_Fl "TabletCommitsModel" 44 7 16 := ⟨by decide, by decide, Or.inl (nn_in 660 (by decide +kernel) rfl)⟩
theorem fg_Mo_44 : mm_Ff "TabletCommitsModel" 44 7 16 := ⟨by decide, by decide, (nn_in 660 (by decide +kernel) rfl), rfl, rfl⟩
theorem ff_Mo_47 : mm_Fl "TabletCommitsModel" 47 7 17 := ⟨by decide, by decide, Or.inl (nn_in 661 (by decide +kernel) rfl)⟩
theorem fg_Mo_47 : mm_Ff "TabletCommitsModel" 47 7 17 := ⟨by decide, by decide, (nn_in 661 (by decide +kernel) rfl), rfl, rfl⟩
theorem ff_Mo_51 : mm_Fl "TabletCommitsModel" 51 7 18 := ⟨by decide, by decide, Or.inl (nn_in 662 (by decide +kernel) rfl)⟩
theorem fg_Mo_51 : mm_Ff "TabletCommitsModel" 51 7 18 := ⟨by decide, by decide, (nn_in 662 (by decide +kernel) rfl), rfl, rfl⟩
theorem ff_Mo_54 : mm_Fl "TabletCommitsModel" 54 7 19 := ⟨by decide, by decide, Or.inl (nn_in 663 (by decide +kernel) rfl)⟩
theorem fg_Mo_54 : mm_Ff "TabletCommitsModel" 54 7 19 := ⟨by decide, by decide, (nn_in 663 (by decide +kernel) rfl), rfl, rfl⟩
theorem ff_Mo_57 : mm_Fl "TabletCommitsModel" 57 7 20 := ⟨by decide, by decide, Or.inl (nn_in 664 (by decide +kernel) rfl)⟩
theorem fg_Mo_57 : mm_Ff "TabletCommitsModel" 57 7 20 := ⟨by decide, by decide, (nn_in 664 (by decide +kernel) rfl), rfl, rfl⟩
theorem ff_Mo_60 : mm_Fl "TabletCommitsModel" 60 7 21 := ⟨by decide, by decide, Or.inl (nn_in 665 (by decide +kernel) rfl)⟩
theorem fg_Mo_60 : mm_Ff "TabletCommitsModel" 60 7 21 := ⟨by decide, by decide, (nn_in 665 (by decide +kernel) rfl), rfl, rfl⟩
theorem ff_Mo_63 : mm_Fl "TabletCommitsModel" 63 7 22 := ⟨by decide, by decide, Or.inl (nn_in 666 (by decide +kernel) rfl)⟩
theorem fg_Mo_63 : mm_Ff "TabletCommitsModel" 63 7 22 := ⟨by decide, by decide, (nn_in 666 (by decide +kernel) rfl), rfl, rfl⟩
theorem ff_Mo_66 : mm_Fl "TabletCommitsModel" 66 7 23 := ⟨by decide, by decide, Or.inl (nn_in 667 (by decide +kernel) rfl)⟩
theorem fg_Mo_66 : mm_Ff "TabletCommitsModel" 66 7 23 := ⟨by decide, by decide, (nn_in 667 (by decide +kernel) rfl), rfl, rfl⟩
theorem ff_Mo_69 : mm_Fl "TabletCommitsModel" 69 7 24 := ⟨by decide, by decide, Or.inl (nn_in 668 (by decide +kernel) rfl)⟩
theorem fg_Mo_69 : mm_Ff "TabletCommitsModel" 69 7 24 := ⟨by decide, by decide, (nn_in 668 (by decide +kernel) rfl), rfl, rfl⟩
theorem ff_Mo_72 : mm_Fl "TabletCommitsModel" 72 7 25 := ⟨by decide, by decide, Or.inl (nn_in 669 (by decide +kernel) rfl)⟩
theorem fg_Mo_72 : mm_Ff "TabletCommitsModel" 72 7 25 := ⟨by decide, by decide, (nn_in 669 (by decide +kernel) rfl), rfl, rfl⟩
theorem ff_Mo_75 : mm_Fl "TabletCommitsModel" 75 7 26 := ⟨by decide, by decide, Or.inl (nn_in 670 (by decide +kernel) rfl)⟩
theorem fg_Mo_75 : mm_Ff "TabletCommitsModel" 75 7 26 := ⟨by decide, by decide, (nn_in 670 (by decide +kernel) rfl), rfl, rfl⟩
theorem ff_Mo_78 : mm_Fl "TabletCommitsModel" 78 7 27 := ⟨by decide, by decide, Or.inl (nn_in 671 (by decide +kernel) rfl)⟩
theorem fg_Mo_78 : mm_Ff "TabletCommitsModel" 78 7 27 := ⟨by decide, by decide, (nn_in 671 (by decide +kernel) rfl), rfl, rfl⟩
theorem ff_Mo_81 : mm_Fl "TabletCommitsModel" 81 7 28 := ⟨by decide, by decide, Or.inl (nn_in 672 (by decide +kernel) rfl)⟩
theorem fg_Mo_81 : mm_Ff "TabletCommitsModel" 81 7 28 := ⟨by decide, by decide, (nn_in 672 (by decide +kernel) rfl), rfl, rfl⟩
theorem ff_Mo_84 : mm_Fl "TabletCommitsModel" 84 7 29 := ⟨by decide, by decide, Or.inl (nn_in 673 (by decide +kernel) rfl)⟩
theorem fg_Mo_84 : mm_Ff "TabletCommitsModel" 84 7 29 := ⟨by decide, by decide, (nn_in 673 (by decide +kernel) rfl), rfl, rfl⟩
theorem ff_Mo_87 : mm_Fl "TabletCommitsModel" 87 7 30 := ⟨by decide, by decide, Or.inl (nn_in 674 (by decide +kernel) rfl)⟩
theorem fg_Mo_87 : mm_Ff "TabletCommitsModel" 87 7 30 := ⟨by decide, by decide, (nn_in 674 (by decide +kernel) rfl), rfl, rfl⟩
theorem ff_Mo_90 : mm_Fl "TabletCommitsModel" 90 7 0 := ⟨by decide, by decide, Or.inl (nn_in 644 (by decide +kernel) rfl)⟩
theorem fg_Mo_90 : mm_Ff "TabletCommitsModel" 90 7 0 := ⟨by decide, by decide, (nn_in 644 (by decide +kernel) rfl), rfl, rfl⟩
theorem ff_Mo_93 : mm_Fl "TabletCommitsModel" 93 7 1 := ⟨by decide, by decide, Or.inl (nn_in 645 (by decide +kernel) rfl)⟩
theorem ff_Mo_96 : mm_Fl "TabletCommitsModel" 96 7 4 := ⟨by decide, by decide, Or.inl (nn_in 648 (by decide +kernel) rfl)⟩
theorem ff_Mo_99 : mm_Fl "TabletCommitsModel" 99 7 11 := ⟨by decide, by decide, Or.inl (nn_in 655 (by decide +kernel) rfl)⟩
theorem cs_Mo_102 : mm_Cs "TabletCommitsModel" 102 yy_Mo_entry bb_Mo_entry 4 (some .boolean) 1 := ⟨(nn_in 784 (by decide +kernel) rfl), (nn_in 7 (by decide +kernel) rfl), ⟨by decide, by decide, by decide +kernel⟩, Or.inl (nn_in 781 (by decide +kernel) rfl)⟩
theorem ci_Mo_102 : Cond.instanceMethod yy_Mo_entry ∈ nn_TS ∧ Cond.selects yy_Mo_entry.cls yy_Mo_entry yy_Mo_entry ∈ nn_TS := ⟨(nn_in 783 (by decide +kernel) rfl), (nn_inp 19 (by decide +kernel) rfl)⟩
theorem cs_Mo_106 : mm_Cs "TabletCommitsModel" 106 yy_Mo_put bb_Mo_put 6 none 5 := ⟨(nn_in 788 (by decide +kernel) rfl), (nn_in 7 (by decide +kernel) rfl), ⟨by decide, by decide, by decide +kernel⟩, Or.inl (nn_in 785 (by decide +kernel) rfl)⟩
theorem ci_Mo_106 : Cond.instanceMethod yy_Mo_put ∈ nn_TS ∧ Cond.selects yy_Mo_put.cls yy_Mo_put yy_Mo_put ∈ nn_TS := ⟨(nn_in 787 (by decide +kernel) rfl), (nn_inp 20 (by decide +kernel) rfl)⟩
theorem ff_Mo_110 : mm_Fl "TabletCommitsModel" 110 7 2 := ⟨by decide, by decide, Or.inl (nn_in 646 (by decide +kernel) rfl)⟩
theorem cs_Mo_113 : mm_Cs "TabletCommitsModel" 113 yy_Mo_decision bb_Mo_decision 5 (some .int) 2 := ⟨(nn_in 776 (by decide +kernel) rfl), (nn_in 7 (by decide +kernel) rfl), ⟨by decide, by decide, by decide +kernel⟩, Or.inl (nn_in 773 (by decide +kernel) rfl)⟩
theorem ci_Mo_113 : Cond.instanceMethod yy_Mo_decision ∈ nn_TS ∧ Cond.selects yy_Mo_decision.cls yy_Mo_decision yy_Mo_decision ∈ nn_TS := ⟨(nn_in 775 (by decide +kernel) rfl), (nn_inp 17 (by decide +kernel) rfl)⟩
theorem cs_Mo_117 : mm_Cs "TabletCommitsModel" 117 yy_Mo_done bb_Mo_done 4 (some .boolean) 2 := ⟨(nn_in 780 (by decide +kernel) rfl), (nn_in 7 (by decide +kernel) rfl), ⟨by decide, by decide, by decide +kernel⟩, Or.inl (nn_in 777 (by decide +kernel) rfl)⟩
theorem ci_Mo_117 : Cond.instanceMethod yy_Mo_done ∈ nn_TS ∧ Cond.selects yy_Mo_done.cls yy_Mo_done yy_Mo_done ∈ nn_TS := ⟨(nn_in 779 (by decide +kernel) rfl), (nn_inp 18 (by decide +kernel) rfl)⟩
theorem cs_Mo_121 : mm_Cs "TabletCommitsModel" 121 yy_Mo_loose bb_Mo_loose 3 (some .boolean) 1 := ⟨(nn_in 792 (by decide +kernel) rfl), (nn_in 7 (by decide +kernel) rfl), ⟨by decide, by decide, by decide +kernel⟩, Or.inl (nn_in 789 (by decide +kernel) rfl)⟩
theorem ci_Mo_121 : Cond.instanceMethod yy_Mo_loose ∈ nn_TS ∧ Cond.selects yy_Mo_loose.cls yy_Mo_loose yy_Mo_loose ∈ nn_TS := ⟨(nn_in 791 (by decide +kernel) rfl), (nn_inp 21 (by decide +kernel) rfl)⟩
theorem cs_Mo_124 : mm_Cs "TabletCommitsModel" 124 yy_Mo_voids bb_Mo_voids 4 (some .boolean) 2 := ⟨(nn_in 796 (by decide +kernel) rfl), (nn_in 7 (by decide +kernel) rfl), ⟨by decide, by decide, by decide +kernel⟩, Or.inl (nn_in 793 (by decide +kernel) rfl)⟩
theorem ci_Mo_124 : Cond.instanceMethod yy_Mo_voids ∈ nn_TS ∧ Cond.selects yy_Mo_voids.cls yy_Mo_voids yy_Mo_voids ∈ nn_TS := ⟨(nn_in 795 (by decide +kernel) rfl), (nn_inp 22 (by decide +kernel) rfl)⟩
theorem cs_Mo_127 : mm_Cs "TabletCommitsModel" 127 yy_Mo_in bb_Mo_in 3 (some .boolean) 3 := ⟨(nn_in 753 (by decide +kernel) rfl), (nn_in 7 (by decide +kernel) rfl), ⟨by decide, by decide, by decide +kernel⟩, Or.inl (nn_in 751 (by decide +kernel) rfl)⟩
theorem ci_Mo_127 : Cond.static yy_Mo_in ∈ nn_TS := (nn_in 752 (by decide +kernel) rfl)
theorem cs_Mo_131 : mm_Cs "TabletCommitsModel" 131 yy_Mo_isClient bb_Mo_isClient 2 (some .boolean) 1 := ⟨(nn_in 750 (by decide +kernel) rfl), (nn_in 7 (by decide +kernel) rfl), ⟨by decide, by decide, by decide +kernel⟩, Or.inl (nn_in 747 (by decide +kernel) rfl)⟩
theorem ci_Mo_131 : Cond.instanceMethod yy_Mo_isClient ∈ nn_TS ∧ Cond.selects yy_Mo_isClient.cls yy_Mo_isClient yy_Mo_isClient ∈ nn_TS := ⟨(nn_in 749 (by decide +kernel) rfl), (nn_inp 13 (by decide +kernel) rfl)⟩
theorem cs_Mo_134 : mm_Cs "TabletCommitsModel" 134 yy_Mo_fails bb_Mo_fails 2 (some .int) 1 := ⟨(nn_in 757 (by decide +kernel) rfl), (nn_in 7 (by decide +kernel) rfl), ⟨by decide, by decide, by decide +kernel⟩, Or.inl (nn_in 754 (by decide +kernel) rfl)⟩
theorem ci_Mo_134 : Cond.instanceMethod yy_Mo_fails ∈ nn_TS ∧ Cond.selects yy_Mo_fails.cls yy_Mo_fails yy_Mo_fails ∈ nn_TS := ⟨(nn_in 756 (by decide +kernel) rfl), (nn_inp 14 (by decide +kernel) rfl)⟩
theorem cs_Mo_138 : mm_Cs "TabletCommitsModel" 138 yy_Mo_handOut bb_Mo_handOut 1 (some .int) 0 := ⟨(nn_in 761 (by decide +kernel) rfl), (nn_in 7 (by decide +kernel) rfl), ⟨by decide, by decide, by decide +kernel⟩, Or.inl (nn_in 758 (by decide +kernel) rfl)⟩
theorem ci_Mo_138 : Cond.instanceMethod yy_Mo_handOut ∈ nn_TS ∧ Cond.selects yy_Mo_handOut.cls yy_Mo_handOut yy_Mo_handOut ∈ nn_TS := ⟨(nn_in 760 (by decide +kernel) rfl), (nn_inp 15 (by decide +kernel) rfl)⟩
theorem cs_Mo_142 : mm_Cs "TabletCommitsModel" 142 yy_Mo_isCell bb_Mo_isCell 1 (some .boolean) 1 := ⟨(nn_in 768 (by decide +kernel) rfl), (nn_in 7 (by decide +kernel) rfl), ⟨by decide, by decide, by decide +kernel⟩, Or.inl (nn_in 766 (by decide +kernel) rfl)⟩
theorem ci_Mo_142 : Cond.static yy_Mo_isCell ∈ nn_TS := (nn_in 767 (by decide +kernel) rfl)
theorem cs_Mo_145 : mm_Cs "TabletCommitsModel" 145 yy_Mo_clearing bb_Mo_clearing 5 (some .int) 1 := ⟨(nn_in 772 (by decide +kernel) rfl), (nn_in 7 (by decide +kernel) rfl), ⟨by decide, by decide, by decide +kernel⟩, Or.inl (nn_in 769 (by decide +kernel) rfl)⟩
theorem ci_Mo_145 : Cond.instanceMethod yy_Mo_clearing ∈ nn_TS ∧ Cond.selects yy_Mo_clearing.cls yy_Mo_clearing yy_Mo_clearing ∈ nn_TS := ⟨(nn_in 771 (by decide +kernel) rfl), (nn_inp 16 (by decide +kernel) rfl)⟩
theorem cs_Mo_148 : mm_Cs "TabletCommitsModel" 148 yy_Mo_latest bb_Mo_latest 6 (some .int) 2 := ⟨(nn_in 800 (by decide +kernel) rfl), (nn_in 7 (by decide +kernel) rfl), ⟨by decide, by decide, by decide +kernel⟩, Or.inl (nn_in 797 (by decide +kernel) rfl)⟩
theorem ci_Mo_148 : Cond.instanceMethod yy_Mo_latest ∈ nn_TS ∧ Cond.selects yy_Mo_latest.cls yy_Mo_latest yy_Mo_latest ∈ nn_TS := ⟨(nn_in 799 (by decide +kernel) rfl), (nn_inp 23 (by decide +kernel) rfl)⟩
theorem cs_Mo_151 : mm_Cs "TabletCommitsModel" 151 yy_Mo_change bb_Mo_change 5 none 4 := ⟨(nn_in 808 (by decide +kernel) rfl), (nn_in 7 (by decide +kernel) rfl), ⟨by decide, by decide, by decide +kernel⟩, Or.inl (nn_in 805 (by decide +kernel) rfl)⟩
theorem ci_Mo_151 : Cond.instanceMethod yy_Mo_change ∈ nn_TS ∧ Cond.selects yy_Mo_change.cls yy_Mo_change yy_Mo_change ∈ nn_TS := ⟨(nn_in 807 (by decide +kernel) rfl), (nn_inp 24 (by decide +kernel) rfl)⟩
theorem cs_Mo_155 : mm_Cs "TabletCommitsModel" 155 yy_Mo_first bb_Mo_first 3 (some .int) 1 := ⟨(nn_in 820 (by decide +kernel) rfl), (nn_in 7 (by decide +kernel) rfl), ⟨by decide, by decide, by decide +kernel⟩, Or.inl (nn_in 817 (by decide +kernel) rfl)⟩
theorem ci_Mo_155 : Cond.instanceMethod yy_Mo_first ∈ nn_TS ∧ Cond.selects yy_Mo_first.cls yy_Mo_first yy_Mo_first ∈ nn_TS := ⟨(nn_in 819 (by decide +kernel) rfl), (nn_inp 25 (by decide +kernel) rfl)⟩
theorem cs_Mo_158 : mm_Cs "TabletCommitsModel" 158 yy_Mo_ends bb_Mo_ends 3 (some .int) 2 := ⟨(nn_in 824 (by decide +kernel) rfl), (nn_in 7 (by decide +kernel) rfl), ⟨by decide, by decide, by decide +kernel⟩, Or.inl (nn_in 821 (by decide +kernel) rfl)⟩
theorem ci_Mo_158 : Cond.instanceMethod yy_Mo_ends ∈ nn_TS ∧ Cond.selects yy_Mo_ends.cls yy_Mo_ends yy_Mo_ends ∈ nn_TS := ⟨(nn_in 823 (by decide +kernel) rfl), (nn_inp 26 (by decide +kernel) rfl)⟩
theorem cs_Mo_161 : mm_Cs "TabletCommitsModel" 161 yy_Mo_nextCell bb_Mo_nextCell 7 (some .int) 2 := ⟨(nn_in 828 (by decide +kernel) rfl), (nn_in 7 (by decide +kernel) rfl), ⟨by decide, by decide, by decide +kernel⟩, Or.inl (nn_in 825 (by decide +kernel) rfl)⟩
theorem ci_Mo_161 : Cond.instanceMethod yy_Mo_nextCell ∈ nn_TS ∧ Cond.selects yy_Mo_nextCell.cls yy_Mo_nextCell yy_Mo_nextCell ∈ nn_TS := ⟨(nn_in 827 (by decide +kernel) rfl), (nn_inp 27 (by decide +kernel) rfl)⟩
theorem cs_Mo_165 : mm_Cs "TabletCommitsModel" 165 yy_Mo_prewrite bb_Mo_prewrite 5 (some .int) 2 := ⟨(nn_in 832 (by decide +kernel) rfl), (nn_in 7 (by decide +kernel) rfl), ⟨by decide, by decide, by decide +kernel⟩, Or.inl (nn_in 829 (by decide +kernel) rfl)⟩
theorem ci_Mo_165 : Cond.instanceMethod yy_Mo_prewrite ∈ nn_TS ∧ Cond.selects yy_Mo_prewrite.cls yy_Mo_prewrite yy_Mo_prewrite ∈ nn_TS := ⟨(nn_in 831 (by decide +kernel) rfl), (nn_inp 28 (by decide +kernel) rfl)⟩
theorem cs_Mo_168 : mm_Cs "TabletCommitsModel" 168 yy_Mo_follow bb_Mo_follow 3 (some .int) 1 := ⟨(nn_in 844 (by decide +kernel) rfl), (nn_in 7 (by decide +kernel) rfl), ⟨by decide, by decide, by decide +kernel⟩, Or.inl (nn_in 841 (by decide +kernel) rfl)⟩
theorem ci_Mo_168 : Cond.instanceMethod yy_Mo_follow ∈ nn_TS ∧ Cond.selects yy_Mo_follow.cls yy_Mo_follow yy_Mo_follow ∈ nn_TS := ⟨(nn_in 843 (by decide +kernel) rfl), (nn_inp 31 (by decide +kernel) rfl)⟩
theorem cs_Mo_171 : mm_Cs "TabletCommitsModel" 171 yy_Mo_decide bb_Mo_decide 3 (some .int) 1 := ⟨(nn_in 848 (by decide +kernel) rfl), (nn_in 7 (by decide +kernel) rfl), ⟨by decide, by decide, by decide +kernel⟩, Or.inl (nn_in 845 (by decide +kernel) rfl)⟩
theorem ci_Mo_171 : Cond.instanceMethod yy_Mo_decide ∈ nn_TS ∧ Cond.selects yy_Mo_decide.cls yy_Mo_decide yy_Mo_decide ∈ nn_TS := ⟨(nn_in 847 (by decide +kernel) rfl), (nn_inp 32 (by decide +kernel) rfl)⟩
theorem cs_Mo_174 : mm_Cs "TabletCommitsModel" 174 yy_Mo_overtaken bb_Mo_overtaken 6 (some .boolean) 2 := ⟨(nn_in 836 (by decide +kernel) rfl), (nn_in 7 (by decide +kernel) rfl), ⟨by decide, by decide, by decide +kernel⟩, Or.inl (nn_in 833 (by decide +kernel) rfl)⟩
theorem ci_Mo_174 : Cond.instanceMethod yy_Mo_overtaken ∈ nn_TS ∧ Cond.selects yy_Mo_overtaken.cls yy_Mo_overtaken yy_Mo_overtaken ∈ nn_TS := ⟨(nn_in 835 (by decide +kernel) rfl), (nn_inp 29 (by decide +kernel) rfl)⟩
theorem cs_Mo_177 : mm_Cs "TabletCommitsModel" 177 yy_Mo_locks bb_Mo_locks 5 (some .boolean) 3 := ⟨(nn_in 840 (by decide +kernel) rfl), (nn_in 7 (by decide +kernel) rfl), ⟨by decide, by decide, by decide +kernel⟩, Or.inl (nn_in 837 (by decide +kernel) rfl)⟩
theorem ci_Mo_177 : Cond.instanceMethod yy_Mo_locks ∈ nn_TS ∧ Cond.selects yy_Mo_locks.cls yy_Mo_locks yy_Mo_locks ∈ nn_TS := ⟨(nn_in 839 (by decide +kernel) rfl), (nn_inp 30 (by decide +kernel) rfl)⟩
theorem cs_Mo_180 : mm_Cs "TabletCommitsModel" 180 yy_Mo_sweepTablet bb_Mo_sweepTablet 6 none 2 := ⟨(nn_in 884 (by decide +kernel) rfl), (nn_in 7 (by decide +kernel) rfl), ⟨by decide, by decide, by decide +kernel⟩, Or.inl (nn_in 881 (by decide +kernel) rfl)⟩
theorem ci_Mo_180 : Cond.instanceMethod yy_Mo_sweepTablet ∈ nn_TS ∧ Cond.selects yy_Mo_sweepTablet.cls yy_Mo_sweepTablet yy_Mo_sweepTablet ∈ nn_TS := ⟨(nn_in 883 (by decide +kernel) rfl), (nn_inp 33 (by decide +kernel) rfl)⟩
theorem cn_0 : Cond.instantiable (nn_C 0) (nn_N 0) ∈ nn_TS := (nn_in 18 (by decide +kernel) rfl)
theorem ck_0 : Cond.initialized (nn_C 0) ∈ nn_TS := (nn_in 1 (by decide +kernel) rfl)
theorem cn_1 : Cond.instantiable (nn_C 1) (nn_N 1) ∈ nn_TS := (nn_in 32 (by decide +kernel) rfl)
theorem ck_1 : Cond.initialized (nn_C 1) ∈ nn_TS := (nn_in 3 (by decide +kernel) rfl)
theorem cn_2 : Cond.instantiable (nn_C 2) (nn_N 2) ∈ nn_TS := (nn_in 48 (by decide +kernel) rfl)
theorem ck_2 : Cond.initialized (nn_C 2) ∈ nn_TS := (nn_in 4 (by decide +kernel) rfl)
theorem cn_3 : Cond.instantiable (nn_C 3) (nn_N 3) ∈ nn_TS := (nn_in 77 (by decide +kernel) rfl)
theorem ck_3 : Cond.initialized (nn_C 3) ∈ nn_TS := (nn_in 5 (by decide +kernel) rfl)
theorem cn_4 : Cond.instantiable (nn_C 4) (nn_N 4) ∈ nn_TS := (nn_in 576 (by decide +kernel) rfl)
theorem ck_4 : Cond.initialized (nn_C 4) ∈ nn_TS := (nn_in 16 (by decide +kernel) rfl)
theorem cn_5 : Cond.instantiable (nn_C 5) (nn_N 5) ∈ nn_TS := (nn_in 470 (by decide +kernel) rfl)
theorem ck_5 : Cond.initialized (nn_C 5) ∈ nn_TS := (nn_in 15 (by decide +kernel) rfl)
theorem cn_6 : Cond.instantiable (nn_C 6) (nn_N 6) ∈ nn_TS := (nn_in 99 (by decide +kernel) rfl)
theorem ck_6 : Cond.initialized (nn_C 6) ∈ nn_TS := (nn_in 6 (by decide +kernel) rfl)
theorem cn_7 : Cond.instantiable (nn_C 7) (nn_N 7) ∈ nn_TS := (nn_in 639 (by decide +kernel) rfl)
theorem ck_7 : Cond.initialized (nn_C 7) ∈ nn_TS := (nn_in 7 (by decide +kernel) rfl)
theorem ca_int : Cond.arrayClass .int ∈ nn_TS := (nn_in 146 (by decide +kernel) rfl)
theorem ca_boolean : Cond.arrayClass .boolean ∈ nn_TS := (nn_in 738 (by decide +kernel) rfl)
theorem ca_long : Cond.arrayClass .long ∈ nn_TS := (nn_in 906 (by decide +kernel) rfl)
end
section
theorem dd_Or_init_0 : decode bb_Or_init 0 = .ok (.aload_n 0, 1) := by decide +kernel
theorem dd_Or_init_1 : decode bb_Or_init 1 = .ok (.invokespecial 3, 3) := by decide +kernel
theorem dd_Or_init_4 : decode bb_Or_init 4 = .ok (.aload_n 0, 1) := by decide +kernel
theorem dd_Or_init_5 : decode bb_Or_init 5 = .ok (.iconst 1, 1) := by decide +kernel
theorem dd_Or_init_6 : decode bb_Or_init 6 = .ok (.putfield 9, 3) := by decide +kernel
theorem dd_Or_init_9 : decode bb_Or_init 9 = .ok (.aload_n 0, 1) := by decide +kernel
theorem dd_Or_init_10 : decode bb_Or_init 10 = .ok (.iconst 0, 1) := by decide +kernel
theorem dd_Or_init_11 : decode bb_Or_init 11 = .ok (.putfield 15, 3) := by decide +kernel
theorem dd_Or_init_14 : decode bb_Or_init 14 = .ok (.return_, 1) := by decide +kernel
theorem dd_Or_handOut_0 : decode bb_Or_handOut 0 = .ok (.aload_n 0, 1) := by decide +kernel
theorem dd_Or_handOut_1 : decode bb_Or_handOut 1 = .ok (.getfield 9, 3) := by decide +kernel
theorem dd_Or_handOut_4 : decode bb_Or_handOut 4 = .ok (.aload_n 0, 1) := by decide +kernel
theorem dd_Or_handOut_5 : decode bb_Or_handOut 5 = .ok (.getfield 15, 3) := by decide +kernel
theorem dd_Or_handOut_8 : decode bb_Or_handOut 8 = .ok (.if_icmp .le 14, 3) := by decide +kernel
theorem dd_Or_handOut_11 : decode bb_Or_handOut 11 = .ok (.aload_n 0, 1) := by decide +kernel
theorem dd_Or_handOut_12 : decode bb_Or_handOut 12 = .ok (.aload_n 0, 1) := by decide +kernel
theorem dd_Or_handOut_13 : decode bb_Or_handOut 13 = .ok (.getfield 9, 3) := by decide +kernel
theorem dd_Or_handOut_16 : decode bb_Or_handOut 16 = .ok (.bipush 7, 2) := by decide +kernel
theorem dd_Or_handOut_18 : decode bb_Or_handOut 18 = .ok (.iadd, 1) := by decide +kernel
theorem dd_Or_handOut_19 : decode bb_Or_handOut 19 = .ok (.putfield 15, 3) := by decide +kernel
theorem dd_Or_handOut_22 : decode bb_Or_handOut 22 = .ok (.aload_n 0, 1) := by decide +kernel
theorem dd_Or_handOut_23 : decode bb_Or_handOut 23 = .ok (.getfield 9, 3) := by decide +kernel
theorem dd_Or_handOut_26 : decode bb_Or_handOut 26 = .ok (.istore_n 1, 1) := by decide +kernel
theorem dd_Or_handOut_27 : decode bb_Or_handOut 27 = .ok (.aload_n 0, 1) := by decide +kernel
theorem dd_Or_handOut_28 : decode bb_Or_handOut 28 = .ok (.dup, 1) := by decide +kernel
theorem dd_Or_handOut_29 : decode bb_Or_handOut 29 = .ok (.getfield 9, 3) := by decide +kernel
theorem dd_Or_handOut_32 : decode bb_Or_handOut 32 = .ok (.iconst 1, 1) := by decide +kernel
theorem dd_Or_handOut_33 : decode bb_Or_handOut 33 = .ok (.iadd, 1) := by decide +kernel
theorem dd_Or_handOut_34 : decode bb_Or_handOut 34 = .ok (.putfield 9, 3) := by decide +kernel
theorem dd_Or_handOut_37 : decode bb_Or_handOut 37 = .ok (.iload_n 1, 1) := by decide +kernel
theorem dd_Or_handOut_38 : decode bb_Or_handOut 38 = .ok (.ireturn, 1) := by decide +kernel
theorem dd_Or_restart_0 : decode bb_Or_restart 0 = .ok (.aload_n 0, 1) := by decide +kernel
theorem dd_Or_restart_1 : decode bb_Or_restart 1 = .ok (.aload_n 0, 1) := by decide +kernel
theorem dd_Or_restart_2 : decode bb_Or_restart 2 = .ok (.getfield 15, 3) := by decide +kernel
theorem dd_Or_restart_5 : decode bb_Or_restart 5 = .ok (.iconst 1, 1) := by decide +kernel
theorem dd_Or_restart_6 : decode bb_Or_restart 6 = .ok (.iadd, 1) := by decide +kernel
theorem dd_Or_restart_7 : decode bb_Or_restart 7 = .ok (.putfield 9, 3) := by decide +kernel
theorem dd_Or_restart_10 : decode bb_Or_restart 10 = .ok (.aload_n 0, 1) := by decide +kernel
theorem dd_Or_restart_11 : decode bb_Or_restart 11 = .ok (.getfield 9, 3) := by decide +kernel
theorem dd_Or_restart_14 : decode bb_Or_restart 14 = .ok (.ireturn, 1) := by decide +kernel
theorem dd_Ta_init_0 : decode bb_Ta_init 0 = .ok (.aload_n 0, 1) := by decide +kernel
theorem dd_Ta_init_1 : decode bb_Ta_init 1 = .ok (.invokespecial 3, 3) := by decide +kernel
theorem dd_Ta_init_4 : decode bb_Ta_init 4 = .ok (.aload_n 0, 1) := by decide +kernel
theorem dd_Ta_init_5 : decode bb_Ta_init 5 = .ok (.iconst 1, 1) := by decide +kernel
theorem dd_Ta_init_6 : decode bb_Ta_init 6 = .ok (.putfield 9, 3) := by decide +kernel
theorem dd_Ta_init_9 : decode bb_Ta_init 9 = .ok (.aload_n 0, 1) := by decide +kernel
theorem dd_Ta_init_10 : decode bb_Ta_init 10 = .ok (.iconst 0, 1) := by decide +kernel
theorem dd_Ta_init_11 : decode bb_Ta_init 11 = .ok (.putfield 15, 3) := by decide +kernel
theorem dd_Ta_init_14 : decode bb_Ta_init 14 = .ok (.aload_n 0, 1) := by decide +kernel
theorem dd_Ta_init_15 : decode bb_Ta_init 15 = .ok (.iconst 0, 1) := by decide +kernel
theorem dd_Ta_init_16 : decode bb_Ta_init 16 = .ok (.putfield 19, 3) := by decide +kernel
theorem dd_Ta_init_19 : decode bb_Ta_init 19 = .ok (.aload_n 0, 1) := by decide +kernel
theorem dd_Ta_init_20 : decode bb_Ta_init 20 = .ok (.iconst 0, 1) := by decide +kernel
theorem dd_Ta_init_21 : decode bb_Ta_init 21 = .ok (.putfield 22, 3) := by decide +kernel
theorem dd_Ta_init_24 : decode bb_Ta_init 24 = .ok (.aload_n 0, 1) := by decide +kernel
theorem dd_Ta_init_25 : decode bb_Ta_init 25 = .ok (.iconst 0, 1) := by decide +kernel
theorem dd_Ta_init_26 : decode bb_Ta_init 26 = .ok (.putfield 25, 3) := by decide +kernel
theorem dd_Ta_init_29 : decode bb_Ta_init 29 = .ok (.aload_n 0, 1) := by decide +kernel
theorem dd_Ta_init_30 : decode bb_Ta_init 30 = .ok (.iconst 0, 1) := by decide +kernel
theorem dd_Ta_init_31 : decode bb_Ta_init 31 = .ok (.putfield 28, 3) := by decide +kernel
theorem dd_Ta_init_34 : decode bb_Ta_init 34 = .ok (.return_, 1) := by decide +kernel
theorem dd_Ta_putsIntoLog_0 : decode bb_Ta_putsIntoLog 0 = .ok (.aload_n 0, 1) := by decide +kernel
theorem dd_Ta_putsIntoLog_1 : decode bb_Ta_putsIntoLog 1 = .ok (.dup, 1) := by decide +kernel
theorem dd_Ta_putsIntoLog_2 : decode bb_Ta_putsIntoLog 2 = .ok (.getfield 22, 3) := by decide +kernel
theorem dd_Ta_putsIntoLog_5 : decode bb_Ta_putsIntoLog 5 = .ok (.iconst 1, 1) := by decide +kernel
theorem dd_Ta_putsIntoLog_6 : decode bb_Ta_putsIntoLog 6 = .ok (.iadd, 1) := by decide +kernel
theorem dd_Ta_putsIntoLog_7 : decode bb_Ta_putsIntoLog 7 = .ok (.putfield 22, 3) := by decide +kernel
theorem dd_Ta_putsIntoLog_10 : decode bb_Ta_putsIntoLog 10 = .ok (.aload_n 0, 1) := by decide +kernel
theorem dd_Ta_putsIntoLog_11 : decode bb_Ta_putsIntoLog 11 = .ok (.getfield 19, 3) := by decide +kernel
theorem dd_Ta_putsIntoLog_14 : decode bb_Ta_putsIntoLog 14 = .ok (.bipush 8, 2) := by decide +kernel
theorem dd_Ta_putsIntoLog_16 : decode bb_Ta_putsIntoLog 16 = .ok (.if_icmp .lt 8, 3) := by decide +kernel
theorem dd_Ta_putsIntoLog_19 : decode bb_Ta_putsIntoLog 19 = .ok (.aload_n 0, 1) := by decide +kernel
theorem dd_Ta_putsIntoLog_20 : decode bb_Ta_putsIntoLog 20 = .ok (.iconst 0, 1) := by decide +kernel
theorem dd_Ta_putsIntoLog_21 : decode bb_Ta_putsIntoLog 21 = .ok (.putfield 19, 3) := by decide +kernel
theorem dd_Ta_putsIntoLog_24 : decode bb_Ta_putsIntoLog 24 = .ok (.aload_n 0, 1) := by decide +kernel
theorem dd_Ta_putsIntoLog_25 : decode bb_Ta_putsIntoLog 25 = .ok (.getfield 25, 3) := by decide +kernel
theorem dd_Ta_putsIntoLog_28 : decode bb_Ta_putsIntoLog 28 = .ok (.iconst 1, 1) := by decide +kernel
theorem dd_Ta_putsIntoLog_29 : decode bb_Ta_putsIntoLog 29 = .ok (.if_icmp .ne 7, 3) := by decide +kernel
theorem dd_Ta_putsIntoLog_32 : decode bb_Ta_putsIntoLog 32 = .ok (.iconst 1, 1) := by decide +kernel
theorem dd_Ta_putsIntoLog_33 : decode bb_Ta_putsIntoLog 33 = .ok (.goto 4, 3) := by decide +kernel
theorem dd_Ta_putsIntoLog_36 : decode bb_Ta_putsIntoLog 36 = .ok (.iconst 0, 1) := by decide +kernel
theorem dd_Ta_putsIntoLog_37 : decode bb_Ta_putsIntoLog 37 = .ok (.istore_n 1, 1) := by decide +kernel
theorem dd_Ta_putsIntoLog_38 : decode bb_Ta_putsIntoLog 38 = .ok (.aload_n 0, 1) := by decide +kernel
theorem dd_Ta_putsIntoLog_39 : decode bb_Ta_putsIntoLog 39 = .ok (.getfield 25, 3) := by decide +kernel
theorem dd_Ta_putsIntoLog_42 : decode bb_Ta_putsIntoLog 42 = .ok (.ifCond .le 13, 3) := by decide +kernel
theorem dd_Ta_putsIntoLog_45 : decode bb_Ta_putsIntoLog 45 = .ok (.aload_n 0, 1) := by decide +kernel
theorem dd_Ta_putsIntoLog_46 : decode bb_Ta_putsIntoLog 46 = .ok (.dup, 1) := by decide +kernel
theorem dd_Ta_putsIntoLog_47 : decode bb_Ta_putsIntoLog 47 = .ok (.getfield 25, 3) := by decide +kernel
theorem dd_Ta_putsIntoLog_50 : decode bb_Ta_putsIntoLog 50 = .ok (.iconst 1, 1) := by decide +kernel
theorem dd_Ta_putsIntoLog_51 : decode bb_Ta_putsIntoLog 51 = .ok (.isub, 1) := by decide +kernel
theorem dd_Ta_putsIntoLog_52 : decode bb_Ta_putsIntoLog 52 = .ok (.putfield 25, 3) := by decide +kernel
theorem dd_Ta_putsIntoLog_55 : decode bb_Ta_putsIntoLog 55 = .ok (.iload_n 1, 1) := by decide +kernel
theorem dd_Ta_putsIntoLog_56 : decode bb_Ta_putsIntoLog 56 = .ok (.ifCond .eq 8, 3) := by decide +kernel
theorem dd_Ta_putsIntoLog_59 : decode bb_Ta_putsIntoLog 59 = .ok (.aload_n 0, 1) := by decide +kernel
theorem dd_Ta_putsIntoLog_60 : decode bb_Ta_putsIntoLog 60 = .ok (.iconst 0, 1) := by decide +kernel
theorem dd_Ta_putsIntoLog_61 : decode bb_Ta_putsIntoLog 61 = .ok (.putfield 9, 3) := by decide +kernel
theorem dd_Ta_putsIntoLog_64 : decode bb_Ta_putsIntoLog 64 = .ok (.iload_n 1, 1) := by decide +kernel
theorem dd_Ta_putsIntoLog_65 : decode bb_Ta_putsIntoLog 65 = .ok (.ifCond .eq 10, 3) := by decide +kernel
theorem dd_Ta_putsIntoLog_68 : decode bb_Ta_putsIntoLog 68 = .ok (.aload_n 0, 1) := by decide +kernel
theorem dd_Ta_putsIntoLog_69 : decode bb_Ta_putsIntoLog 69 = .ok (.getfield 28, 3) := by decide +kernel
theorem dd_Ta_putsIntoLog_72 : decode bb_Ta_putsIntoLog 72 = .ok (.ifCond .eq 7, 3) := by decide +kernel
theorem dd_Ta_putsIntoLog_75 : decode bb_Ta_putsIntoLog 75 = .ok (.iconst 1, 1) := by decide +kernel
theorem dd_Ta_putsIntoLog_76 : decode bb_Ta_putsIntoLog 76 = .ok (.goto 4, 3) := by decide +kernel
theorem dd_Ta_putsIntoLog_79 : decode bb_Ta_putsIntoLog 79 = .ok (.iconst 0, 1) := by decide +kernel
theorem dd_Ta_putsIntoLog_80 : decode bb_Ta_putsIntoLog 80 = .ok (.istore_n 2, 1) := by decide +kernel
theorem dd_Ta_putsIntoLog_81 : decode bb_Ta_putsIntoLog 81 = .ok (.iload_n 2, 1) := by decide +kernel
theorem dd_Ta_putsIntoLog_82 : decode bb_Ta_putsIntoLog 82 = .ok (.ifCond .eq 13, 3) := by decide +kernel
theorem dd_Ta_putsIntoLog_85 : decode bb_Ta_putsIntoLog 85 = .ok (.aload_n 0, 1) := by decide +kernel
theorem dd_Ta_putsIntoLog_86 : decode bb_Ta_putsIntoLog 86 = .ok (.dup, 1) := by decide +kernel
theorem dd_Ta_putsIntoLog_87 : decode bb_Ta_putsIntoLog 87 = .ok (.getfield 19, 3) := by decide +kernel
theorem dd_Ta_putsIntoLog_90 : decode bb_Ta_putsIntoLog 90 = .ok (.iconst 1, 1) := by decide +kernel
theorem dd_Ta_putsIntoLog_91 : decode bb_Ta_putsIntoLog 91 = .ok (.iadd, 1) := by decide +kernel
theorem dd_Ta_putsIntoLog_92 : decode bb_Ta_putsIntoLog 92 = .ok (.putfield 19, 3) := by decide +kernel
theorem dd_Ta_putsIntoLog_95 : decode bb_Ta_putsIntoLog 95 = .ok (.iload_n 2, 1) := by decide +kernel
theorem dd_Ta_putsIntoLog_96 : decode bb_Ta_putsIntoLog 96 = .ok (.ireturn, 1) := by decide +kernel
theorem dd_Ta_failAt_0 : decode bb_Ta_failAt 0 = .ok (.aload_n 0, 1) := by decide +kernel
theorem dd_Ta_failAt_1 : decode bb_Ta_failAt 1 = .ok (.iload_n 1, 1) := by decide +kernel
theorem dd_Ta_failAt_2 : decode bb_Ta_failAt 2 = .ok (.putfield 25, 3) := by decide +kernel
theorem dd_Ta_failAt_5 : decode bb_Ta_failAt 5 = .ok (.aload_n 0, 1) := by decide +kernel
theorem dd_Ta_failAt_6 : decode bb_Ta_failAt 6 = .ok (.iload_n 2, 1) := by decide +kernel
theorem dd_Ta_failAt_7 : decode bb_Ta_failAt 7 = .ok (.putfield 28, 3) := by decide +kernel
theorem dd_Ta_failAt_10 : decode bb_Ta_failAt 10 = .ok (.return_, 1) := by decide +kernel
theorem dd_Ta_comeUp_0 : decode bb_Ta_comeUp 0 = .ok (.aload_n 0, 1) := by decide +kernel
theorem dd_Ta_comeUp_1 : decode bb_Ta_comeUp 1 = .ok (.iconst 1, 1) := by decide +kernel
theorem dd_Ta_comeUp_2 : decode bb_Ta_comeUp 2 = .ok (.putfield 9, 3) := by decide +kernel
theorem dd_Ta_comeUp_5 : decode bb_Ta_comeUp 5 = .ok (.aload_n 0, 1) := by decide +kernel
theorem dd_Ta_comeUp_6 : decode bb_Ta_comeUp 6 = .ok (.iconst 0, 1) := by decide +kernel
theorem dd_Ta_comeUp_7 : decode bb_Ta_comeUp 7 = .ok (.putfield 25, 3) := by decide +kernel
theorem dd_Ta_comeUp_10 : decode bb_Ta_comeUp 10 = .ok (.return_, 1) := by decide +kernel
theorem dd_Ta_answer_0 : decode bb_Ta_answer 0 = .ok (.iload_n 1, 1) := by decide +kernel
theorem dd_Ta_answer_1 : decode bb_Ta_answer 1 = .ok (.tableswitch 53 0 2 #[27, 32, 48], 27) := by decide +kernel
theorem dd_Ta_answer_28 : decode bb_Ta_answer 28 = .ok (.aload_n 0, 1) := by decide +kernel
theorem dd_Ta_answer_29 : decode bb_Ta_answer 29 = .ok (.getfield 19, 3) := by decide +kernel
theorem dd_Ta_answer_32 : decode bb_Ta_answer 32 = .ok (.ireturn, 1) := by decide +kernel
theorem dd_Ta_answer_33 : decode bb_Ta_answer 33 = .ok (.aload_n 0, 1) := by decide +kernel
theorem dd_Ta_answer_34 : decode bb_Ta_answer 34 = .ok (.getfield 9, 3) := by decide +kernel
theorem dd_Ta_answer_37 : decode bb_Ta_answer 37 = .ok (.ifCond .eq 10, 3) := by decide +kernel
theorem dd_Ta_answer_40 : decode bb_Ta_answer 40 = .ok (.aload_n 0, 1) := by decide +kernel
theorem dd_Ta_answer_41 : decode bb_Ta_answer 41 = .ok (.getfield 15, 3) := by decide +kernel
theorem dd_Ta_answer_44 : decode bb_Ta_answer 44 = .ok (.goto 4, 3) := by decide +kernel
theorem dd_Ta_answer_47 : decode bb_Ta_answer 47 = .ok (.iconst (-1), 1) := by decide +kernel
theorem dd_Ta_answer_48 : decode bb_Ta_answer 48 = .ok (.ireturn, 1) := by decide +kernel
theorem dd_Ta_answer_49 : decode bb_Ta_answer 49 = .ok (.aload_n 0, 1) := by decide +kernel
theorem dd_Ta_answer_50 : decode bb_Ta_answer 50 = .ok (.getfield 22, 3) := by decide +kernel
theorem dd_Ta_answer_53 : decode bb_Ta_answer 53 = .ok (.ireturn, 1) := by decide +kernel
theorem dd_Ta_answer_54 : decode bb_Ta_answer 54 = .ok (.iconst (-1), 1) := by decide +kernel
theorem dd_Ta_answer_55 : decode bb_Ta_answer 55 = .ok (.ireturn, 1) := by decide +kernel
theorem dd_Lo_init_0 : decode bb_Lo_init 0 = .ok (.aload_n 0, 1) := by decide +kernel
theorem dd_Lo_init_1 : decode bb_Lo_init 1 = .ok (.invokespecial 3, 3) := by decide +kernel
theorem dd_Lo_init_4 : decode bb_Lo_init 4 = .ok (.aload_n 0, 1) := by decide +kernel
theorem dd_Lo_init_5 : decode bb_Lo_init 5 = .ok (.iload_n 1, 1) := by decide +kernel
theorem dd_Lo_init_6 : decode bb_Lo_init 6 = .ok (.putfield 9, 3) := by decide +kernel
theorem dd_Lo_init_9 : decode bb_Lo_init 9 = .ok (.aload_n 0, 1) := by decide +kernel
theorem dd_Lo_init_10 : decode bb_Lo_init 10 = .ok (.iload_n 2, 1) := by decide +kernel
theorem dd_Lo_init_11 : decode bb_Lo_init 11 = .ok (.putfield 15, 3) := by decide +kernel
theorem dd_Lo_init_14 : decode bb_Lo_init 14 = .ok (.aload_n 0, 1) := by decide +kernel
theorem dd_Lo_init_15 : decode bb_Lo_init 15 = .ok (.iload_n 3, 1) := by decide +kernel
theorem dd_Lo_init_16 : decode bb_Lo_init 16 = .ok (.putfield 18, 3) := by decide +kernel
theorem dd_Lo_init_19 : decode bb_Lo_init 19 = .ok (.aload_n 0, 1) := by decide +kernel
theorem dd_Lo_init_20 : decode bb_Lo_init 20 = .ok (.iload 4, 2) := by decide +kernel
theorem dd_Lo_init_22 : decode bb_Lo_init 22 = .ok (.putfield 21, 3) := by decide +kernel
theorem dd_Lo_init_25 : decode bb_Lo_init 25 = .ok (.aload_n 0, 1) := by decide +kernel
theorem dd_Lo_init_26 : decode bb_Lo_init 26 = .ok (.iload 5, 2) := by decide +kernel
theorem dd_Lo_init_28 : decode bb_Lo_init 28 = .ok (.putfield 24, 3) := by decide +kernel
theorem dd_Lo_init_31 : decode bb_Lo_init 31 = .ok (.aload_n 0, 1) := by decide +kernel
theorem dd_Lo_init_32 : decode bb_Lo_init 32 = .ok (.iload 6, 2) := by decide +kernel
theorem dd_Lo_init_34 : decode bb_Lo_init 34 = .ok (.putfield 28, 3) := by decide +kernel
theorem dd_Lo_init_37 : decode bb_Lo_init 37 = .ok (.return_, 1) := by decide +kernel
theorem dd_Lo_answer_0 : decode bb_Lo_answer 0 = .ok (.iload_n 1, 1) := by decide +kernel
theorem dd_Lo_answer_1 : decode bb_Lo_answer 1 = .ok (.tableswitch 64 0 5 #[39, 44, 49, 54, 64, 59], 39) := by decide +kernel
theorem dd_Lo_answer_40 : decode bb_Lo_answer 40 = .ok (.aload_n 0, 1) := by decide +kernel
theorem dd_Lo_answer_41 : decode bb_Lo_answer 41 = .ok (.getfield 9, 3) := by decide +kernel
theorem dd_Lo_answer_44 : decode bb_Lo_answer 44 = .ok (.ireturn, 1) := by decide +kernel
theorem dd_Lo_answer_45 : decode bb_Lo_answer 45 = .ok (.aload_n 0, 1) := by decide +kernel
theorem dd_Lo_answer_46 : decode bb_Lo_answer 46 = .ok (.getfield 15, 3) := by decide +kernel
theorem dd_Lo_answer_49 : decode bb_Lo_answer 49 = .ok (.ireturn, 1) := by decide +kernel
theorem dd_Lo_answer_50 : decode bb_Lo_answer 50 = .ok (.aload_n 0, 1) := by decide +kernel
theorem dd_Lo_answer_51 : decode bb_Lo_answer 51 = .ok (.getfield 18, 3) := by decide +kernel
theorem dd_Lo_answer_54 : decode bb_Lo_answer 54 = .ok (.ireturn, 1) := by decide +kernel
theorem dd_Lo_answer_55 : decode bb_Lo_answer 55 = .ok (.aload_n 0, 1) := by decide +kernel
theorem dd_Lo_answer_56 : decode bb_Lo_answer 56 = .ok (.getfield 21, 3) := by decide +kernel
theorem dd_Lo_answer_59 : decode bb_Lo_answer 59 = .ok (.ireturn, 1) := by decide +kernel
theorem dd_Lo_answer_60 : decode bb_Lo_answer 60 = .ok (.aload_n 0, 1) := by decide +kernel
theorem dd_Lo_answer_61 : decode bb_Lo_answer 61 = .ok (.getfield 28, 3) := by decide +kernel
theorem dd_Lo_answer_64 : decode bb_Lo_answer 64 = .ok (.ireturn, 1) := by decide +kernel
theorem dd_Lo_answer_65 : decode bb_Lo_answer 65 = .ok (.iconst (-1), 1) := by decide +kernel
theorem dd_Lo_answer_66 : decode bb_Lo_answer 66 = .ok (.ireturn, 1) := by decide +kernel
theorem dd_Ve_init_0 : decode bb_Ve_init 0 = .ok (.aload_n 0, 1) := by decide +kernel
theorem dd_Ve_init_1 : decode bb_Ve_init 1 = .ok (.invokespecial 3, 3) := by decide +kernel
theorem dd_Ve_init_4 : decode bb_Ve_init 4 = .ok (.aload_n 0, 1) := by decide +kernel
theorem dd_Ve_init_5 : decode bb_Ve_init 5 = .ok (.aconst_null, 1) := by decide +kernel
theorem dd_Ve_init_6 : decode bb_Ve_init 6 = .ok (.putfield 9, 3) := by decide +kernel
theorem dd_Ve_init_9 : decode bb_Ve_init 9 = .ok (.aload_n 0, 1) := by decide +kernel
theorem dd_Ve_init_10 : decode bb_Ve_init 10 = .ok (.iload_n 1, 1) := by decide +kernel
theorem dd_Ve_init_11 : decode bb_Ve_init 11 = .ok (.putfield 15, 3) := by decide +kernel
theorem dd_Ve_init_14 : decode bb_Ve_init 14 = .ok (.aload_n 0, 1) := by decide +kernel
theorem dd_Ve_init_15 : decode bb_Ve_init 15 = .ok (.iload_n 2, 1) := by decide +kernel
theorem dd_Ve_init_16 : decode bb_Ve_init 16 = .ok (.putfield 19, 3) := by decide +kernel
theorem dd_Ve_init_19 : decode bb_Ve_init 19 = .ok (.aload_n 0, 1) := by decide +kernel
theorem dd_Ve_init_20 : decode bb_Ve_init 20 = .ok (.iload_n 3, 1) := by decide +kernel
theorem dd_Ve_init_21 : decode bb_Ve_init 21 = .ok (.putfield 22, 3) := by decide +kernel
theorem dd_Ve_init_24 : decode bb_Ve_init 24 = .ok (.aload_n 0, 1) := by decide +kernel
theorem dd_Ve_init_25 : decode bb_Ve_init 25 = .ok (.iload 4, 2) := by decide +kernel
theorem dd_Ve_init_27 : decode bb_Ve_init 27 = .ok (.putfield 25, 3) := by decide +kernel
theorem dd_Ve_init_30 : decode bb_Ve_init 30 = .ok (.return_, 1) := by decide +kernel
theorem dd_Ve_answer_0 : decode bb_Ve_answer 0 = .ok (.iload_n 1, 1) := by decide +kernel
theorem dd_Ve_answer_1 : decode bb_Ve_answer 1 = .ok (.tableswitch 51 0 3 #[31, 36, 41, 46], 31) := by decide +kernel
theorem dd_Ve_answer_32 : decode bb_Ve_answer 32 = .ok (.aload_n 0, 1) := by decide +kernel
theorem dd_Ve_answer_33 : decode bb_Ve_answer 33 = .ok (.getfield 15, 3) := by decide +kernel
theorem dd_Ve_answer_36 : decode bb_Ve_answer 36 = .ok (.ireturn, 1) := by decide +kernel
theorem dd_Ve_answer_37 : decode bb_Ve_answer 37 = .ok (.aload_n 0, 1) := by decide +kernel
theorem dd_Ve_answer_38 : decode bb_Ve_answer 38 = .ok (.getfield 19, 3) := by decide +kernel
theorem dd_Ve_answer_41 : decode bb_Ve_answer 41 = .ok (.ireturn, 1) := by decide +kernel
theorem dd_Ve_answer_42 : decode bb_Ve_answer 42 = .ok (.aload_n 0, 1) := by decide +kernel
theorem dd_Ve_answer_43 : decode bb_Ve_answer 43 = .ok (.getfield 22, 3) := by decide +kernel
theorem dd_Ve_answer_46 : decode bb_Ve_answer 46 = .ok (.ireturn, 1) := by decide +kernel
theorem dd_Ve_answer_47 : decode bb_Ve_answer 47 = .ok (.aload_n 0, 1) := by decide +kernel
theorem dd_Ve_answer_48 : decode bb_Ve_answer 48 = .ok (.getfield 25, 3) := by decide +kernel
theorem dd_Ve_answer_51 : decode bb_Ve_answer 51 = .ok (.ireturn, 1) := by decide +kernel
theorem dd_Ve_answer_52 : decode bb_Ve_answer 52 = .ok (.iconst (-1), 1) := by decide +kernel
theorem dd_Ve_answer_53 : decode bb_Ve_answer 53 = .ok (.ireturn, 1) := by decide +kernel
theorem dd_Tr_init_0 : decode bb_Tr_init 0 = .ok (.aload_n 0, 1) := by decide +kernel
theorem dd_Tr_init_1 : decode bb_Tr_init 1 = .ok (.invokespecial 3, 3) := by decide +kernel
theorem dd_Tr_init_4 : decode bb_Tr_init 4 = .ok (.aload_n 0, 1) := by decide +kernel
theorem dd_Tr_init_5 : decode bb_Tr_init 5 = .ok (.iconst 0, 1) := by decide +kernel
theorem dd_Tr_init_6 : decode bb_Tr_init 6 = .ok (.putfield 9, 3) := by decide +kernel
theorem dd_Tr_init_9 : decode bb_Tr_init 9 = .ok (.aload_n 0, 1) := by decide +kernel
theorem dd_Tr_init_10 : decode bb_Tr_init 10 = .ok (.iconst 0, 1) := by decide +kernel
theorem dd_Tr_init_11 : decode bb_Tr_init 11 = .ok (.putfield 15, 3) := by decide +kernel
theorem dd_Tr_init_14 : decode bb_Tr_init 14 = .ok (.aload_n 0, 1) := by decide +kernel
theorem dd_Tr_init_15 : decode bb_Tr_init 15 = .ok (.iconst 0, 1) := by decide +kernel
theorem dd_Tr_init_16 : decode bb_Tr_init 16 = .ok (.putfield 18, 3) := by decide +kernel
theorem dd_Tr_init_19 : decode bb_Tr_init 19 = .ok (.aload_n 0, 1) := by decide +kernel
theorem dd_Tr_init_20 : decode bb_Tr_init 20 = .ok (.iconst 0, 1) := by decide +kernel
theorem dd_Tr_init_21 : decode bb_Tr_init 21 = .ok (.putfield 22, 3) := by decide +kernel
theorem dd_Tr_init_24 : decode bb_Tr_init 24 = .ok (.aload_n 0, 1) := by decide +kernel
theorem dd_Tr_init_25 : decode bb_Tr_init 25 = .ok (.iconst 0, 1) := by decide +kernel
theorem dd_Tr_init_26 : decode bb_Tr_init 26 = .ok (.putfield 25, 3) := by decide +kernel
theorem dd_Tr_init_29 : decode bb_Tr_init 29 = .ok (.aload_n 0, 1) := by decide +kernel
theorem dd_Tr_init_30 : decode bb_Tr_init 30 = .ok (.iconst 0, 1) := by decide +kernel
theorem dd_Tr_init_31 : decode bb_Tr_init 31 = .ok (.putfield 28, 3) := by decide +kernel
theorem dd_Tr_init_34 : decode bb_Tr_init 34 = .ok (.aload_n 0, 1) := by decide +kernel
theorem dd_Tr_init_35 : decode bb_Tr_init 35 = .ok (.iconst 0, 1) := by decide +kernel
theorem dd_Tr_init_36 : decode bb_Tr_init 36 = .ok (.putfield 31, 3) := by decide +kernel
theorem dd_Tr_init_39 : decode bb_Tr_init 39 = .ok (.aload_n 0, 1) := by decide +kernel
theorem dd_Tr_init_40 : decode bb_Tr_init 40 = .ok (.iconst 0, 1) := by decide +kernel
theorem dd_Tr_init_41 : decode bb_Tr_init 41 = .ok (.putfield 34, 3) := by decide +kernel
theorem dd_Tr_init_44 : decode bb_Tr_init 44 = .ok (.aload_n 0, 1) := by decide +kernel
theorem dd_Tr_init_45 : decode bb_Tr_init 45 = .ok (.iconst 0, 1) := by decide +kernel
theorem dd_Tr_init_46 : decode bb_Tr_init 46 = .ok (.putfield 37, 3) := by decide +kernel
theorem dd_Tr_init_49 : decode bb_Tr_init 49 = .ok (.aload_n 0, 1) := by decide +kernel
theorem dd_Tr_init_50 : decode bb_Tr_init 50 = .ok (.iload_n 1, 1) := by decide +kernel
theorem dd_Tr_init_51 : decode bb_Tr_init 51 = .ok (.putfield 40, 3) := by decide +kernel
theorem dd_Tr_init_54 : decode bb_Tr_init 54 = .ok (.aload_n 0, 1) := by decide +kernel
theorem dd_Tr_init_55 : decode bb_Tr_init 55 = .ok (.bipush 12, 2) := by decide +kernel
theorem dd_Tr_init_57 : decode bb_Tr_init 57 = .ok (.newarray .int, 2) := by decide +kernel
theorem dd_Tr_init_59 : decode bb_Tr_init 59 = .ok (.putfield 43, 3) := by decide +kernel
theorem dd_Tr_init_62 : decode bb_Tr_init 62 = .ok (.return_, 1) := by decide +kernel
theorem dd_Tr_startAt_0 : decode bb_Tr_startAt 0 = .ok (.aload_n 0, 1) := by decide +kernel
theorem dd_Tr_startAt_1 : decode bb_Tr_startAt 1 = .ok (.iconst 1, 1) := by decide +kernel
theorem dd_Tr_startAt_2 : decode bb_Tr_startAt 2 = .ok (.putfield 9, 3) := by decide +kernel
theorem dd_Tr_startAt_5 : decode bb_Tr_startAt 5 = .ok (.aload_n 0, 1) := by decide +kernel
theorem dd_Tr_startAt_6 : decode bb_Tr_startAt 6 = .ok (.iload_n 1, 1) := by decide +kernel
theorem dd_Tr_startAt_7 : decode bb_Tr_startAt 7 = .ok (.putfield 18, 3) := by decide +kernel
theorem dd_Tr_startAt_10 : decode bb_Tr_startAt 10 = .ok (.return_, 1) := by decide +kernel
theorem dd_Tr_end_0 : decode bb_Tr_end 0 = .ok (.aload_n 0, 1) := by decide +kernel
theorem dd_Tr_end_1 : decode bb_Tr_end 1 = .ok (.iconst 0, 1) := by decide +kernel
theorem dd_Tr_end_2 : decode bb_Tr_end 2 = .ok (.putfield 9, 3) := by decide +kernel
theorem dd_Tr_end_5 : decode bb_Tr_end 5 = .ok (.aload_n 0, 1) := by decide +kernel
theorem dd_Tr_end_6 : decode bb_Tr_end 6 = .ok (.iconst 0, 1) := by decide +kernel
theorem dd_Tr_end_7 : decode bb_Tr_end 7 = .ok (.putfield 15, 3) := by decide +kernel
theorem dd_Tr_end_10 : decode bb_Tr_end 10 = .ok (.aload_n 0, 1) := by decide +kernel
theorem dd_Tr_end_11 : decode bb_Tr_end 11 = .ok (.iconst 0, 1) := by decide +kernel
theorem dd_Tr_end_12 : decode bb_Tr_end 12 = .ok (.putfield 18, 3) := by decide +kernel
theorem dd_Tr_end_15 : decode bb_Tr_end 15 = .ok (.aload_n 0, 1) := by decide +kernel
theorem dd_Tr_end_16 : decode bb_Tr_end 16 = .ok (.iconst 0, 1) := by decide +kernel
theorem dd_Tr_end_17 : decode bb_Tr_end 17 = .ok (.putfield 22, 3) := by decide +kernel
theorem dd_Tr_end_20 : decode bb_Tr_end 20 = .ok (.aload_n 0, 1) := by decide +kernel
theorem dd_Tr_end_21 : decode bb_Tr_end 21 = .ok (.iconst 0, 1) := by decide +kernel
theorem dd_Tr_end_22 : decode bb_Tr_end 22 = .ok (.putfield 25, 3) := by decide +kernel
theorem dd_Tr_end_25 : decode bb_Tr_end 25 = .ok (.aload_n 0, 1) := by decide +kernel
theorem dd_Tr_end_26 : decode bb_Tr_end 26 = .ok (.iconst 0, 1) := by decide +kernel
theorem dd_Tr_end_27 : decode bb_Tr_end 27 = .ok (.putfield 28, 3) := by decide +kernel
theorem dd_Tr_end_30 : decode bb_Tr_end 30 = .ok (.aload_n 0, 1) := by decide +kernel
theorem dd_Tr_end_31 : decode bb_Tr_end 31 = .ok (.iconst 0, 1) := by decide +kernel
theorem dd_Tr_end_32 : decode bb_Tr_end 32 = .ok (.putfield 31, 3) := by decide +kernel
theorem dd_Tr_end_35 : decode bb_Tr_end 35 = .ok (.aload_n 0, 1) := by decide +kernel
theorem dd_Tr_end_36 : decode bb_Tr_end 36 = .ok (.iconst 0, 1) := by decide +kernel
theorem dd_Tr_end_37 : decode bb_Tr_end 37 = .ok (.putfield 34, 3) := by decide +kernel
theorem dd_Tr_end_40 : decode bb_Tr_end 40 = .ok (.aload_n 0, 1) := by decide +kernel
theorem dd_Tr_end_41 : decode bb_Tr_end 41 = .ok (.iconst 0, 1) := by decide +kernel
theorem dd_Tr_end_42 : decode bb_Tr_end 42 = .ok (.putfield 37, 3) := by decide +kernel
theorem dd_Tr_end_45 : decode bb_Tr_end 45 = .ok (.return_, 1) := by decide +kernel
theorem dd_Tr_writes_0 : decode bb_Tr_writes 0 = .ok (.aload_n 0, 1) := by decide +kernel
theorem dd_Tr_writes_1 : decode bb_Tr_writes 1 = .ok (.getfield 25, 3) := by decide +kernel
theorem dd_Tr_writes_4 : decode bb_Tr_writes 4 = .ok (.iload_n 1, 1) := by decide +kernel
theorem dd_Tr_writes_5 : decode bb_Tr_writes 5 = .ok (.ishr, 1) := by decide +kernel
theorem dd_Tr_writes_6 : decode bb_Tr_writes 6 = .ok (.iconst 1, 1) := by decide +kernel
theorem dd_Tr_writes_7 : decode bb_Tr_writes 7 = .ok (.iand, 1) := by decide +kernel
theorem dd_Tr_writes_8 : decode bb_Tr_writes 8 = .ok (.iconst 1, 1) := by decide +kernel
theorem dd_Tr_writes_9 : decode bb_Tr_writes 9 = .ok (.if_icmp .ne 7, 3) := by decide +kernel
theorem dd_Tr_writes_12 : decode bb_Tr_writes 12 = .ok (.iconst 1, 1) := by decide +kernel
theorem dd_Tr_writes_13 : decode bb_Tr_writes 13 = .ok (.goto 4, 3) := by decide +kernel
theorem dd_Tr_writes_16 : decode bb_Tr_writes 16 = .ok (.iconst 0, 1) := by decide +kernel
theorem dd_Tr_writes_17 : decode bb_Tr_writes 17 = .ok (.ireturn, 1) := by decide +kernel
theorem dd_Tr_erases_0 : decode bb_Tr_erases 0 = .ok (.aload_n 0, 1) := by decide +kernel
theorem dd_Tr_erases_1 : decode bb_Tr_erases 1 = .ok (.getfield 28, 3) := by decide +kernel
theorem dd_Tr_erases_4 : decode bb_Tr_erases 4 = .ok (.iload_n 1, 1) := by decide +kernel
theorem dd_Tr_erases_5 : decode bb_Tr_erases 5 = .ok (.ishr, 1) := by decide +kernel
theorem dd_Tr_erases_6 : decode bb_Tr_erases 6 = .ok (.iconst 1, 1) := by decide +kernel
theorem dd_Tr_erases_7 : decode bb_Tr_erases 7 = .ok (.iand, 1) := by decide +kernel
theorem dd_Tr_erases_8 : decode bb_Tr_erases 8 = .ok (.iconst 1, 1) := by decide +kernel
theorem dd_Tr_erases_9 : decode bb_Tr_erases 9 = .ok (.if_icmp .ne 7, 3) := by decide +kernel
theorem dd_Tr_erases_12 : decode bb_Tr_erases 12 = .ok (.iconst 1, 1) := by decide +kernel
theorem dd_Tr_erases_13 : decode bb_Tr_erases 13 = .ok (.goto 4, 3) := by decide +kernel
theorem dd_Tr_erases_16 : decode bb_Tr_erases 16 = .ok (.iconst 0, 1) := by decide +kernel
theorem dd_Tr_erases_17 : decode bb_Tr_erases 17 = .ok (.ireturn, 1) := by decide +kernel
theorem dd_Tr_ownValue_0 : decode bb_Tr_ownValue 0 = .ok (.aload_n 0, 1) := by decide +kernel
theorem dd_Tr_ownValue_1 : decode bb_Tr_ownValue 1 = .ok (.iload_n 1, 1) := by decide +kernel
theorem dd_Tr_ownValue_2 : decode bb_Tr_ownValue 2 = .ok (.invokevirtual 47, 3) := by decide +kernel
theorem dd_Tr_ownValue_5 : decode bb_Tr_ownValue 5 = .ok (.ifCond .eq 13, 3) := by decide +kernel
theorem dd_Tr_ownValue_8 : decode bb_Tr_ownValue 8 = .ok (.new 51, 3) := by decide +kernel
theorem dd_Tr_ownValue_11 : decode bb_Tr_ownValue 11 = .ok (.dup, 1) := by decide +kernel
theorem dd_Tr_ownValue_12 : decode bb_Tr_ownValue 12 = .ok (.ldc 53, 2) := by decide +kernel
theorem dd_Tr_ownValue_14 : decode bb_Tr_ownValue 14 = .ok (.invokespecial 55, 3) := by decide +kernel
theorem dd_Tr_ownValue_17 : decode bb_Tr_ownValue 17 = .ok (.athrow, 1) := by decide +kernel
theorem dd_Tr_ownValue_18 : decode bb_Tr_ownValue 18 = .ok (.aload_n 0, 1) := by decide +kernel
theorem dd_Tr_ownValue_19 : decode bb_Tr_ownValue 19 = .ok (.getfield 43, 3) := by decide +kernel
theorem dd_Tr_ownValue_22 : decode bb_Tr_ownValue 22 = .ok (.iload_n 1, 1) := by decide +kernel
theorem dd_Tr_ownValue_23 : decode bb_Tr_ownValue 23 = .ok (.iaload, 1) := by decide +kernel
theorem dd_Tr_ownValue_24 : decode bb_Tr_ownValue 24 = .ok (.ireturn, 1) := by decide +kernel
theorem dd_Tr_willPut_0 : decode bb_Tr_willPut 0 = .ok (.aload_n 0, 1) := by decide +kernel
theorem dd_Tr_willPut_1 : decode bb_Tr_willPut 1 = .ok (.dup, 1) := by decide +kernel
theorem dd_Tr_willPut_2 : decode bb_Tr_willPut 2 = .ok (.getfield 25, 3) := by decide +kernel
theorem dd_Tr_willPut_5 : decode bb_Tr_willPut 5 = .ok (.iconst 1, 1) := by decide +kernel
theorem dd_Tr_willPut_6 : decode bb_Tr_willPut 6 = .ok (.iload_n 1, 1) := by decide +kernel
theorem dd_Tr_willPut_7 : decode bb_Tr_willPut 7 = .ok (.ishl, 1) := by decide +kernel
theorem dd_Tr_willPut_8 : decode bb_Tr_willPut 8 = .ok (.ior, 1) := by decide +kernel
theorem dd_Tr_willPut_9 : decode bb_Tr_willPut 9 = .ok (.putfield 25, 3) := by decide +kernel
theorem dd_Tr_willPut_12 : decode bb_Tr_willPut 12 = .ok (.aload_n 0, 1) := by decide +kernel
theorem dd_Tr_willPut_13 : decode bb_Tr_willPut 13 = .ok (.dup, 1) := by decide +kernel
theorem dd_Tr_willPut_14 : decode bb_Tr_willPut 14 = .ok (.getfield 28, 3) := by decide +kernel
theorem dd_Tr_willPut_17 : decode bb_Tr_willPut 17 = .ok (.iconst 1, 1) := by decide +kernel
theorem dd_Tr_willPut_18 : decode bb_Tr_willPut 18 = .ok (.iload_n 1, 1) := by decide +kernel
theorem dd_Tr_willPut_19 : decode bb_Tr_willPut 19 = .ok (.ishl, 1) := by decide +kernel
theorem dd_Tr_willPut_20 : decode bb_Tr_willPut 20 = .ok (.iconst (-1), 1) := by decide +kernel
theorem dd_Tr_willPut_21 : decode bb_Tr_willPut 21 = .ok (.ixor, 1) := by decide +kernel
theorem dd_Tr_willPut_22 : decode bb_Tr_willPut 22 = .ok (.iand, 1) := by decide +kernel
theorem dd_Tr_willPut_23 : decode bb_Tr_willPut 23 = .ok (.putfield 28, 3) := by decide +kernel
theorem dd_Tr_willPut_26 : decode bb_Tr_willPut 26 = .ok (.aload_n 0, 1) := by decide +kernel
theorem dd_Tr_willPut_27 : decode bb_Tr_willPut 27 = .ok (.getfield 43, 3) := by decide +kernel
theorem dd_Tr_willPut_30 : decode bb_Tr_willPut 30 = .ok (.iload_n 1, 1) := by decide +kernel
theorem dd_Tr_willPut_31 : decode bb_Tr_willPut 31 = .ok (.iload_n 2, 1) := by decide +kernel
theorem dd_Tr_willPut_32 : decode bb_Tr_willPut 32 = .ok (.iastore, 1) := by decide +kernel
theorem dd_Tr_willPut_33 : decode bb_Tr_willPut 33 = .ok (.return_, 1) := by decide +kernel
theorem dd_Tr_willErase_0 : decode bb_Tr_willErase 0 = .ok (.aload_n 0, 1) := by decide +kernel
theorem dd_Tr_willErase_1 : decode bb_Tr_willErase 1 = .ok (.dup, 1) := by decide +kernel
theorem dd_Tr_willErase_2 : decode bb_Tr_willErase 2 = .ok (.getfield 25, 3) := by decide +kernel
theorem dd_Tr_willErase_5 : decode bb_Tr_willErase 5 = .ok (.iconst 1, 1) := by decide +kernel
theorem dd_Tr_willErase_6 : decode bb_Tr_willErase 6 = .ok (.iload_n 1, 1) := by decide +kernel
theorem dd_Tr_willErase_7 : decode bb_Tr_willErase 7 = .ok (.ishl, 1) := by decide +kernel
theorem dd_Tr_willErase_8 : decode bb_Tr_willErase 8 = .ok (.ior, 1) := by decide +kernel
theorem dd_Tr_willErase_9 : decode bb_Tr_willErase 9 = .ok (.putfield 25, 3) := by decide +kernel
theorem dd_Tr_willErase_12 : decode bb_Tr_willErase 12 = .ok (.aload_n 0, 1) := by decide +kernel
theorem dd_Tr_willErase_13 : decode bb_Tr_willErase 13 = .ok (.dup, 1) := by decide +kernel
theorem dd_Tr_willErase_14 : decode bb_Tr_willErase 14 = .ok (.getfield 28, 3) := by decide +kernel
theorem dd_Tr_willErase_17 : decode bb_Tr_willErase 17 = .ok (.iconst 1, 1) := by decide +kernel
theorem dd_Tr_willErase_18 : decode bb_Tr_willErase 18 = .ok (.iload_n 1, 1) := by decide +kernel
theorem dd_Tr_willErase_19 : decode bb_Tr_willErase 19 = .ok (.ishl, 1) := by decide +kernel
theorem dd_Tr_willErase_20 : decode bb_Tr_willErase 20 = .ok (.ior, 1) := by decide +kernel
theorem dd_Tr_willErase_21 : decode bb_Tr_willErase 21 = .ok (.putfield 28, 3) := by decide +kernel
theorem dd_Tr_willErase_24 : decode bb_Tr_willErase 24 = .ok (.aload_n 0, 1) := by decide +kernel
theorem dd_Tr_willErase_25 : decode bb_Tr_willErase 25 = .ok (.getfield 43, 3) := by decide +kernel
theorem dd_Tr_willErase_28 : decode bb_Tr_willErase 28 = .ok (.iload_n 1, 1) := by decide +kernel
theorem dd_Tr_willErase_29 : decode bb_Tr_willErase 29 = .ok (.iconst 0, 1) := by decide +kernel
theorem dd_Tr_willErase_30 : decode bb_Tr_willErase 30 = .ok (.iastore, 1) := by decide +kernel
theorem dd_Tr_willErase_31 : decode bb_Tr_willErase 31 = .ok (.return_, 1) := by decide +kernel
theorem dd_Tr_primary_0 : decode bb_Tr_primary 0 = .ok (.aload_n 0, 1) := by decide +kernel
theorem dd_Tr_primary_1 : decode bb_Tr_primary 1 = .ok (.getfield 25, 3) := by decide +kernel
theorem dd_Tr_primary_4 : decode bb_Tr_primary 4 = .ok (.invokestatic 58, 3) := by decide +kernel
theorem dd_Tr_primary_7 : decode bb_Tr_primary 7 = .ok (.ireturn, 1) := by decide +kernel
theorem dd_Tr_lockFor_0 : decode bb_Tr_lockFor 0 = .ok (.new 62, 3) := by decide +kernel
theorem dd_Tr_lockFor_3 : decode bb_Tr_lockFor 3 = .ok (.dup, 1) := by decide +kernel
theorem dd_Tr_lockFor_4 : decode bb_Tr_lockFor 4 = .ok (.aload_n 0, 1) := by decide +kernel
theorem dd_Tr_lockFor_5 : decode bb_Tr_lockFor 5 = .ok (.getfield 18, 3) := by decide +kernel
theorem dd_Tr_lockFor_8 : decode bb_Tr_lockFor 8 = .ok (.aload_n 0, 1) := by decide +kernel
theorem dd_Tr_lockFor_9 : decode bb_Tr_lockFor 9 = .ok (.invokevirtual 64, 3) := by decide +kernel
theorem dd_Tr_lockFor_12 : decode bb_Tr_lockFor 12 = .ok (.aload_n 0, 1) := by decide +kernel
theorem dd_Tr_lockFor_13 : decode bb_Tr_lockFor 13 = .ok (.getfield 40, 3) := by decide +kernel
theorem dd_Tr_lockFor_16 : decode bb_Tr_lockFor 16 = .ok (.iload_n 2, 1) := by decide +kernel
theorem dd_Tr_lockFor_17 : decode bb_Tr_lockFor 17 = .ok (.aload_n 0, 1) := by decide +kernel
theorem dd_Tr_lockFor_18 : decode bb_Tr_lockFor 18 = .ok (.iload_n 1, 1) := by decide +kernel
theorem dd_Tr_lockFor_19 : decode bb_Tr_lockFor 19 = .ok (.invokevirtual 47, 3) := by decide +kernel
theorem dd_Tr_lockFor_22 : decode bb_Tr_lockFor 22 = .ok (.aload_n 0, 1) := by decide +kernel
theorem dd_Tr_lockFor_23 : decode bb_Tr_lockFor 23 = .ok (.getfield 43, 3) := by decide +kernel
theorem dd_Tr_lockFor_26 : decode bb_Tr_lockFor 26 = .ok (.iload_n 1, 1) := by decide +kernel
theorem dd_Tr_lockFor_27 : decode bb_Tr_lockFor 27 = .ok (.iaload, 1) := by decide +kernel
theorem dd_Tr_lockFor_28 : decode bb_Tr_lockFor 28 = .ok (.invokespecial 68, 3) := by decide +kernel
theorem dd_Tr_lockFor_31 : decode bb_Tr_lockFor 31 = .ok (.areturn, 1) := by decide +kernel
theorem dd_Tr_endIfAllFollowed_0 : decode bb_Tr_endIfAllFollowed 0 = .ok (.aload_n 0, 1) := by decide +kernel
theorem dd_Tr_endIfAllFollowed_1 : decode bb_Tr_endIfAllFollowed 1 = .ok (.getfield 34, 3) := by decide +kernel
theorem dd_Tr_endIfAllFollowed_4 : decode bb_Tr_endIfAllFollowed 4 = .ok (.aload_n 0, 1) := by decide +kernel
theorem dd_Tr_endIfAllFollowed_5 : decode bb_Tr_endIfAllFollowed 5 = .ok (.getfield 25, 3) := by decide +kernel
theorem dd_Tr_endIfAllFollowed_8 : decode bb_Tr_endIfAllFollowed 8 = .ok (.if_icmp .eq 5, 3) := by decide +kernel
theorem dd_Tr_endIfAllFollowed_11 : decode bb_Tr_endIfAllFollowed 11 = .ok (.iconst 0, 1) := by decide +kernel
theorem dd_Tr_endIfAllFollowed_12 : decode bb_Tr_endIfAllFollowed 12 = .ok (.ireturn, 1) := by decide +kernel
theorem dd_Tr_endIfAllFollowed_13 : decode bb_Tr_endIfAllFollowed 13 = .ok (.aload_n 0, 1) := by decide +kernel
theorem dd_Tr_endIfAllFollowed_14 : decode bb_Tr_endIfAllFollowed 14 = .ok (.invokevirtual 71, 3) := by decide +kernel
theorem dd_Tr_endIfAllFollowed_17 : decode bb_Tr_endIfAllFollowed 17 = .ok (.iconst 1, 1) := by decide +kernel
theorem dd_Tr_endIfAllFollowed_18 : decode bb_Tr_endIfAllFollowed 18 = .ok (.ireturn, 1) := by decide +kernel
theorem dd_Tr_answer_0 : decode bb_Tr_answer 0 = .ok (.iload_n 1, 1) := by decide +kernel
theorem dd_Tr_answer_1 : decode bb_Tr_answer 1 = .ok (.tableswitch 83 0 5 #[39, 55, 60, 65, 70, 75], 39) := by decide +kernel
theorem dd_Tr_answer_40 : decode bb_Tr_answer 40 = .ok (.aload_n 0, 1) := by decide +kernel
theorem dd_Tr_answer_41 : decode bb_Tr_answer 41 = .ok (.getfield 9, 3) := by decide +kernel
theorem dd_Tr_answer_44 : decode bb_Tr_answer 44 = .ok (.invokestatic 74, 3) := by decide +kernel
theorem dd_Tr_answer_47 : decode bb_Tr_answer 47 = .ok (.aload_n 0, 1) := by decide +kernel
theorem dd_Tr_answer_48 : decode bb_Tr_answer 48 = .ok (.getfield 15, 3) := by decide +kernel
theorem dd_Tr_answer_51 : decode bb_Tr_answer 51 = .ok (.invokestatic 74, 3) := by decide +kernel
theorem dd_Tr_answer_54 : decode bb_Tr_answer 54 = .ok (.iadd, 1) := by decide +kernel
theorem dd_Tr_answer_55 : decode bb_Tr_answer 55 = .ok (.ireturn, 1) := by decide +kernel
theorem dd_Tr_answer_56 : decode bb_Tr_answer 56 = .ok (.aload_n 0, 1) := by decide +kernel
theorem dd_Tr_answer_57 : decode bb_Tr_answer 57 = .ok (.getfield 18, 3) := by decide +kernel
theorem dd_Tr_answer_60 : decode bb_Tr_answer 60 = .ok (.ireturn, 1) := by decide +kernel
theorem dd_Tr_answer_61 : decode bb_Tr_answer 61 = .ok (.aload_n 0, 1) := by decide +kernel
theorem dd_Tr_answer_62 : decode bb_Tr_answer 62 = .ok (.getfield 22, 3) := by decide +kernel
theorem dd_Tr_answer_65 : decode bb_Tr_answer 65 = .ok (.ireturn, 1) := by decide +kernel
theorem dd_Tr_answer_66 : decode bb_Tr_answer 66 = .ok (.aload_n 0, 1) := by decide +kernel
theorem dd_Tr_answer_67 : decode bb_Tr_answer 67 = .ok (.getfield 25, 3) := by decide +kernel
theorem dd_Tr_answer_70 : decode bb_Tr_answer 70 = .ok (.ireturn, 1) := by decide +kernel
theorem dd_Tr_answer_71 : decode bb_Tr_answer 71 = .ok (.aload_n 0, 1) := by decide +kernel
theorem dd_Tr_answer_72 : decode bb_Tr_answer 72 = .ok (.getfield 31, 3) := by decide +kernel
theorem dd_Tr_answer_75 : decode bb_Tr_answer 75 = .ok (.ireturn, 1) := by decide +kernel
theorem dd_Tr_answer_76 : decode bb_Tr_answer 76 = .ok (.aload_n 0, 1) := by decide +kernel
theorem dd_Tr_answer_77 : decode bb_Tr_answer 77 = .ok (.getfield 37, 3) := by decide +kernel
theorem dd_Tr_answer_80 : decode bb_Tr_answer 80 = .ok (.invokestatic 74, 3) := by decide +kernel
theorem dd_Tr_answer_83 : decode bb_Tr_answer 83 = .ok (.ireturn, 1) := by decide +kernel
theorem dd_Tr_answer_84 : decode bb_Tr_answer 84 = .ok (.iconst (-1), 1) := by decide +kernel
theorem dd_Tr_answer_85 : decode bb_Tr_answer 85 = .ok (.ireturn, 1) := by decide +kernel
theorem dd_Ce_init_0 : decode bb_Ce_init 0 = .ok (.aload_n 0, 1) := by decide +kernel
theorem dd_Ce_init_1 : decode bb_Ce_init 1 = .ok (.invokespecial 3, 3) := by decide +kernel
theorem dd_Ce_init_4 : decode bb_Ce_init 4 = .ok (.aload_n 0, 1) := by decide +kernel
theorem dd_Ce_init_5 : decode bb_Ce_init 5 = .ok (.aconst_null, 1) := by decide +kernel
theorem dd_Ce_init_6 : decode bb_Ce_init 6 = .ok (.putfield 9, 3) := by decide +kernel
theorem dd_Ce_init_9 : decode bb_Ce_init 9 = .ok (.aload_n 0, 1) := by decide +kernel
theorem dd_Ce_init_10 : decode bb_Ce_init 10 = .ok (.aconst_null, 1) := by decide +kernel
theorem dd_Ce_init_11 : decode bb_Ce_init 11 = .ok (.putfield 15, 3) := by decide +kernel
theorem dd_Ce_init_14 : decode bb_Ce_init 14 = .ok (.aload_n 0, 1) := by decide +kernel
theorem dd_Ce_init_15 : decode bb_Ce_init 15 = .ok (.iconst 0, 1) := by decide +kernel
theorem dd_Ce_init_16 : decode bb_Ce_init 16 = .ok (.putfield 19, 3) := by decide +kernel
theorem dd_Ce_init_19 : decode bb_Ce_init 19 = .ok (.aload_n 0, 1) := by decide +kernel
theorem dd_Ce_init_20 : decode bb_Ce_init 20 = .ok (.aload_n 1, 1) := by decide +kernel
theorem dd_Ce_init_21 : decode bb_Ce_init 21 = .ok (.putfield 23, 3) := by decide +kernel
theorem dd_Ce_init_24 : decode bb_Ce_init 24 = .ok (.return_, 1) := by decide +kernel
theorem dd_Ce_isLockedBy_0 : decode bb_Ce_isLockedBy 0 = .ok (.aload_n 0, 1) := by decide +kernel
theorem dd_Ce_isLockedBy_1 : decode bb_Ce_isLockedBy 1 = .ok (.getfield 9, 3) := by decide +kernel
theorem dd_Ce_isLockedBy_4 : decode bb_Ce_isLockedBy 4 = .ok (.ifnull 18, 3) := by decide +kernel
theorem dd_Ce_isLockedBy_7 : decode bb_Ce_isLockedBy 7 = .ok (.aload_n 0, 1) := by decide +kernel
theorem dd_Ce_isLockedBy_8 : decode bb_Ce_isLockedBy 8 = .ok (.getfield 9, 3) := by decide +kernel
theorem dd_Ce_isLockedBy_11 : decode bb_Ce_isLockedBy 11 = .ok (.getfield 27, 3) := by decide +kernel
theorem dd_Ce_isLockedBy_14 : decode bb_Ce_isLockedBy 14 = .ok (.iload_n 1, 1) := by decide +kernel
theorem dd_Ce_isLockedBy_15 : decode bb_Ce_isLockedBy 15 = .ok (.if_icmp .ne 7, 3) := by decide +kernel
theorem dd_Ce_isLockedBy_18 : decode bb_Ce_isLockedBy 18 = .ok (.iconst 1, 1) := by decide +kernel
theorem dd_Ce_isLockedBy_19 : decode bb_Ce_isLockedBy 19 = .ok (.goto 4, 3) := by decide +kernel
theorem dd_Ce_isLockedBy_22 : decode bb_Ce_isLockedBy 22 = .ok (.iconst 0, 1) := by decide +kernel
theorem dd_Ce_isLockedBy_23 : decode bb_Ce_isLockedBy 23 = .ok (.ireturn, 1) := by decide +kernel
theorem dd_Ce_isLockedBefore_0 : decode bb_Ce_isLockedBefore 0 = .ok (.aload_n 0, 1) := by decide +kernel
theorem dd_Ce_isLockedBefore_1 : decode bb_Ce_isLockedBefore 1 = .ok (.getfield 9, 3) := by decide +kernel
theorem dd_Ce_isLockedBefore_4 : decode bb_Ce_isLockedBefore 4 = .ok (.ifnull 18, 3) := by decide +kernel
theorem dd_Ce_isLockedBefore_7 : decode bb_Ce_isLockedBefore 7 = .ok (.aload_n 0, 1) := by decide +kernel
theorem dd_Ce_isLockedBefore_8 : decode bb_Ce_isLockedBefore 8 = .ok (.getfield 9, 3) := by decide +kernel
theorem dd_Ce_isLockedBefore_11 : decode bb_Ce_isLockedBefore 11 = .ok (.getfield 27, 3) := by decide +kernel
theorem dd_Ce_isLockedBefore_14 : decode bb_Ce_isLockedBefore 14 = .ok (.iload_n 1, 1) := by decide +kernel
theorem dd_Ce_isLockedBefore_15 : decode bb_Ce_isLockedBefore 15 = .ok (.if_icmp .ge 7, 3) := by decide +kernel
theorem dd_Ce_isLockedBefore_18 : decode bb_Ce_isLockedBefore 18 = .ok (.iconst 1, 1) := by decide +kernel
theorem dd_Ce_isLockedBefore_19 : decode bb_Ce_isLockedBefore 19 = .ok (.goto 4, 3) := by decide +kernel
theorem dd_Ce_isLockedBefore_22 : decode bb_Ce_isLockedBefore 22 = .ok (.iconst 0, 1) := by decide +kernel
theorem dd_Ce_isLockedBefore_23 : decode bb_Ce_isLockedBefore 23 = .ok (.ireturn, 1) := by decide +kernel
theorem dd_Ce_writeLock_0 : decode bb_Ce_writeLock 0 = .ok (.aload_n 0, 1) := by decide +kernel
theorem dd_Ce_writeLock_1 : decode bb_Ce_writeLock 1 = .ok (.getfield 23, 3) := by decide +kernel
theorem dd_Ce_writeLock_4 : decode bb_Ce_writeLock 4 = .ok (.invokevirtual 32, 3) := by decide +kernel
theorem dd_Ce_writeLock_7 : decode bb_Ce_writeLock 7 = .ok (.ifCond .eq 8, 3) := by decide +kernel
theorem dd_Ce_writeLock_10 : decode bb_Ce_writeLock 10 = .ok (.aload_n 0, 1) := by decide +kernel
theorem dd_Ce_writeLock_11 : decode bb_Ce_writeLock 11 = .ok (.aload_n 1, 1) := by decide +kernel
theorem dd_Ce_writeLock_12 : decode bb_Ce_writeLock 12 = .ok (.putfield 9, 3) := by decide +kernel
theorem dd_Ce_writeLock_15 : decode bb_Ce_writeLock 15 = .ok (.aload_n 0, 1) := by decide +kernel
theorem dd_Ce_writeLock_16 : decode bb_Ce_writeLock 16 = .ok (.getfield 23, 3) := by decide +kernel
theorem dd_Ce_writeLock_19 : decode bb_Ce_writeLock 19 = .ok (.getfield 38, 3) := by decide +kernel
theorem dd_Ce_writeLock_22 : decode bb_Ce_writeLock 22 = .ok (.ireturn, 1) := by decide +kernel
theorem dd_Ce_writeDone_0 : decode bb_Ce_writeDone 0 = .ok (.aload_n 0, 1) := by decide +kernel
theorem dd_Ce_writeDone_1 : decode bb_Ce_writeDone 1 = .ok (.getfield 23, 3) := by decide +kernel
theorem dd_Ce_writeDone_4 : decode bb_Ce_writeDone 4 = .ok (.invokevirtual 32, 3) := by decide +kernel
theorem dd_Ce_writeDone_7 : decode bb_Ce_writeDone 7 = .ok (.ifCond .eq 56, 3) := by decide +kernel
theorem dd_Ce_writeDone_10 : decode bb_Ce_writeDone 10 = .ok (.aload_n 0, 1) := by decide +kernel
theorem dd_Ce_writeDone_11 : decode bb_Ce_writeDone 11 = .ok (.getfield 9, 3) := by decide +kernel
theorem dd_Ce_writeDone_14 : decode bb_Ce_writeDone 14 = .ok (.ifnull 49, 3) := by decide +kernel
theorem dd_Ce_writeDone_17 : decode bb_Ce_writeDone 17 = .ok (.aload_n 0, 1) := by decide +kernel
theorem dd_Ce_writeDone_18 : decode bb_Ce_writeDone 18 = .ok (.new 42, 3) := by decide +kernel
theorem dd_Ce_writeDone_21 : decode bb_Ce_writeDone 21 = .ok (.dup, 1) := by decide +kernel
theorem dd_Ce_writeDone_22 : decode bb_Ce_writeDone 22 = .ok (.iload_n 1, 1) := by decide +kernel
theorem dd_Ce_writeDone_23 : decode bb_Ce_writeDone 23 = .ok (.aload_n 0, 1) := by decide +kernel
theorem dd_Ce_writeDone_24 : decode bb_Ce_writeDone 24 = .ok (.getfield 9, 3) := by decide +kernel
theorem dd_Ce_writeDone_27 : decode bb_Ce_writeDone 27 = .ok (.getfield 27, 3) := by decide +kernel
theorem dd_Ce_writeDone_30 : decode bb_Ce_writeDone 30 = .ok (.aload_n 0, 1) := by decide +kernel
theorem dd_Ce_writeDone_31 : decode bb_Ce_writeDone 31 = .ok (.getfield 9, 3) := by decide +kernel
theorem dd_Ce_writeDone_34 : decode bb_Ce_writeDone 34 = .ok (.getfield 44, 3) := by decide +kernel
theorem dd_Ce_writeDone_37 : decode bb_Ce_writeDone 37 = .ok (.ifCond .eq 7, 3) := by decide +kernel
theorem dd_Ce_writeDone_40 : decode bb_Ce_writeDone 40 = .ok (.iconst 2, 1) := by decide +kernel
theorem dd_Ce_writeDone_41 : decode bb_Ce_writeDone 41 = .ok (.goto 4, 3) := by decide +kernel
theorem dd_Ce_writeDone_44 : decode bb_Ce_writeDone 44 = .ok (.iconst 1, 1) := by decide +kernel
theorem dd_Ce_writeDone_45 : decode bb_Ce_writeDone 45 = .ok (.aload_n 0, 1) := by decide +kernel
theorem dd_Ce_writeDone_46 : decode bb_Ce_writeDone 46 = .ok (.getfield 9, 3) := by decide +kernel
theorem dd_Ce_writeDone_49 : decode bb_Ce_writeDone 49 = .ok (.getfield 47, 3) := by decide +kernel
theorem dd_Ce_writeDone_52 : decode bb_Ce_writeDone 52 = .ok (.invokespecial 50, 3) := by decide +kernel
theorem dd_Ce_writeDone_55 : decode bb_Ce_writeDone 55 = .ok (.invokevirtual 53, 3) := by decide +kernel
theorem dd_Ce_writeDone_58 : decode bb_Ce_writeDone 58 = .ok (.aload_n 0, 1) := by decide +kernel
theorem dd_Ce_writeDone_59 : decode bb_Ce_writeDone 59 = .ok (.aconst_null, 1) := by decide +kernel
theorem dd_Ce_writeDone_60 : decode bb_Ce_writeDone 60 = .ok (.putfield 9, 3) := by decide +kernel
theorem dd_Ce_writeDone_63 : decode bb_Ce_writeDone 63 = .ok (.aload_n 0, 1) := by decide +kernel
theorem dd_Ce_writeDone_64 : decode bb_Ce_writeDone 64 = .ok (.getfield 23, 3) := by decide +kernel
theorem dd_Ce_writeDone_67 : decode bb_Ce_writeDone 67 = .ok (.getfield 38, 3) := by decide +kernel
theorem dd_Ce_writeDone_70 : decode bb_Ce_writeDone 70 = .ok (.ireturn, 1) := by decide +kernel
theorem dd_Ce_writeVoid_0 : decode bb_Ce_writeVoid 0 = .ok (.aload_n 0, 1) := by decide +kernel
theorem dd_Ce_writeVoid_1 : decode bb_Ce_writeVoid 1 = .ok (.getfield 23, 3) := by decide +kernel
theorem dd_Ce_writeVoid_4 : decode bb_Ce_writeVoid 4 = .ok (.invokevirtual 32, 3) := by decide +kernel
theorem dd_Ce_writeVoid_7 : decode bb_Ce_writeVoid 7 = .ok (.ifCond .eq 31, 3) := by decide +kernel
theorem dd_Ce_writeVoid_10 : decode bb_Ce_writeVoid 10 = .ok (.aload_n 0, 1) := by decide +kernel
theorem dd_Ce_writeVoid_11 : decode bb_Ce_writeVoid 11 = .ok (.iload_n 1, 1) := by decide +kernel
theorem dd_Ce_writeVoid_12 : decode bb_Ce_writeVoid 12 = .ok (.invokevirtual 57, 3) := by decide +kernel
theorem dd_Ce_writeVoid_15 : decode bb_Ce_writeVoid 15 = .ok (.ifCond .eq 8, 3) := by decide +kernel
theorem dd_Ce_writeVoid_18 : decode bb_Ce_writeVoid 18 = .ok (.aload_n 0, 1) := by decide +kernel
theorem dd_Ce_writeVoid_19 : decode bb_Ce_writeVoid 19 = .ok (.aconst_null, 1) := by decide +kernel
theorem dd_Ce_writeVoid_20 : decode bb_Ce_writeVoid 20 = .ok (.putfield 9, 3) := by decide +kernel
theorem dd_Ce_writeVoid_23 : decode bb_Ce_writeVoid 23 = .ok (.aload_n 0, 1) := by decide +kernel
theorem dd_Ce_writeVoid_24 : decode bb_Ce_writeVoid 24 = .ok (.new 42, 3) := by decide +kernel
theorem dd_Ce_writeVoid_27 : decode bb_Ce_writeVoid 27 = .ok (.dup, 1) := by decide +kernel
theorem dd_Ce_writeVoid_28 : decode bb_Ce_writeVoid 28 = .ok (.iload_n 1, 1) := by decide +kernel
theorem dd_Ce_writeVoid_29 : decode bb_Ce_writeVoid 29 = .ok (.iload_n 1, 1) := by decide +kernel
theorem dd_Ce_writeVoid_30 : decode bb_Ce_writeVoid 30 = .ok (.iconst 3, 1) := by decide +kernel
theorem dd_Ce_writeVoid_31 : decode bb_Ce_writeVoid 31 = .ok (.iconst 0, 1) := by decide +kernel
theorem dd_Ce_writeVoid_32 : decode bb_Ce_writeVoid 32 = .ok (.invokespecial 50, 3) := by decide +kernel
theorem dd_Ce_writeVoid_35 : decode bb_Ce_writeVoid 35 = .ok (.invokevirtual 53, 3) := by decide +kernel
theorem dd_Ce_writeVoid_38 : decode bb_Ce_writeVoid 38 = .ok (.aload_n 0, 1) := by decide +kernel
theorem dd_Ce_writeVoid_39 : decode bb_Ce_writeVoid 39 = .ok (.getfield 23, 3) := by decide +kernel
theorem dd_Ce_writeVoid_42 : decode bb_Ce_writeVoid 42 = .ok (.getfield 38, 3) := by decide +kernel
theorem dd_Ce_writeVoid_45 : decode bb_Ce_writeVoid 45 = .ok (.ireturn, 1) := by decide +kernel
theorem dd_Ce_overtakes_0 : decode bb_Ce_overtakes 0 = .ok (.aload_n 0, 1) := by decide +kernel
theorem dd_Ce_overtakes_1 : decode bb_Ce_overtakes 1 = .ok (.getfield 15, 3) := by decide +kernel
theorem dd_Ce_overtakes_4 : decode bb_Ce_overtakes 4 = .ok (.astore_n 2, 1) := by decide +kernel
theorem dd_Ce_overtakes_5 : decode bb_Ce_overtakes 5 = .ok (.aload_n 2, 1) := by decide +kernel
theorem dd_Ce_overtakes_6 : decode bb_Ce_overtakes 6 = .ok (.ifnull 40, 3) := by decide +kernel
theorem dd_Ce_overtakes_9 : decode bb_Ce_overtakes 9 = .ok (.aload_n 2, 1) := by decide +kernel
theorem dd_Ce_overtakes_10 : decode bb_Ce_overtakes 10 = .ok (.getfield 61, 3) := by decide +kernel
theorem dd_Ce_overtakes_13 : decode bb_Ce_overtakes 13 = .ok (.iconst 3, 1) := by decide +kernel
theorem dd_Ce_overtakes_14 : decode bb_Ce_overtakes 14 = .ok (.if_icmp .ne 14, 3) := by decide +kernel
theorem dd_Ce_overtakes_17 : decode bb_Ce_overtakes 17 = .ok (.aload_n 2, 1) := by decide +kernel
theorem dd_Ce_overtakes_18 : decode bb_Ce_overtakes 18 = .ok (.getfield 64, 3) := by decide +kernel
theorem dd_Ce_overtakes_21 : decode bb_Ce_overtakes 21 = .ok (.iload_n 1, 1) := by decide +kernel
theorem dd_Ce_overtakes_22 : decode bb_Ce_overtakes 22 = .ok (.if_icmp .ne 16, 3) := by decide +kernel
theorem dd_Ce_overtakes_25 : decode bb_Ce_overtakes 25 = .ok (.goto 11, 3) := by decide +kernel
theorem dd_Ce_overtakes_28 : decode bb_Ce_overtakes 28 = .ok (.aload_n 2, 1) := by decide +kernel
theorem dd_Ce_overtakes_29 : decode bb_Ce_overtakes 29 = .ok (.getfield 65, 3) := by decide +kernel
theorem dd_Ce_overtakes_32 : decode bb_Ce_overtakes 32 = .ok (.iload_n 1, 1) := by decide +kernel
theorem dd_Ce_overtakes_33 : decode bb_Ce_overtakes 33 = .ok (.if_icmp .le 5, 3) := by decide +kernel
theorem dd_Ce_overtakes_36 : decode bb_Ce_overtakes 36 = .ok (.iconst 1, 1) := by decide +kernel
theorem dd_Ce_overtakes_37 : decode bb_Ce_overtakes 37 = .ok (.ireturn, 1) := by decide +kernel
theorem dd_Ce_overtakes_38 : decode bb_Ce_overtakes 38 = .ok (.aload_n 2, 1) := by decide +kernel
theorem dd_Ce_overtakes_39 : decode bb_Ce_overtakes 39 = .ok (.getfield 68, 3) := by decide +kernel
theorem dd_Ce_overtakes_42 : decode bb_Ce_overtakes 42 = .ok (.astore_n 2, 1) := by decide +kernel
theorem dd_Ce_overtakes_43 : decode bb_Ce_overtakes 43 = .ok (.goto (-38), 3) := by decide +kernel
theorem dd_Ce_overtakes_46 : decode bb_Ce_overtakes 46 = .ok (.iconst 0, 1) := by decide +kernel
theorem dd_Ce_overtakes_47 : decode bb_Ce_overtakes 47 = .ok (.ireturn, 1) := by decide +kernel
theorem dd_Ce_versionWrittenBy_0 : decode bb_Ce_versionWrittenBy 0 = .ok (.aload_n 0, 1) := by decide +kernel
theorem dd_Ce_versionWrittenBy_1 : decode bb_Ce_versionWrittenBy 1 = .ok (.getfield 15, 3) := by decide +kernel
theorem dd_Ce_versionWrittenBy_4 : decode bb_Ce_versionWrittenBy 4 = .ok (.astore_n 2, 1) := by decide +kernel
theorem dd_Ce_versionWrittenBy_5 : decode bb_Ce_versionWrittenBy 5 = .ok (.aload_n 2, 1) := by decide +kernel
theorem dd_Ce_versionWrittenBy_6 : decode bb_Ce_versionWrittenBy 6 = .ok (.ifnull 29, 3) := by decide +kernel
theorem dd_Ce_versionWrittenBy_9 : decode bb_Ce_versionWrittenBy 9 = .ok (.aload_n 2, 1) := by decide +kernel
theorem dd_Ce_versionWrittenBy_10 : decode bb_Ce_versionWrittenBy 10 = .ok (.getfield 61, 3) := by decide +kernel
theorem dd_Ce_versionWrittenBy_13 : decode bb_Ce_versionWrittenBy 13 = .ok (.iconst 3, 1) := by decide +kernel
theorem dd_Ce_versionWrittenBy_14 : decode bb_Ce_versionWrittenBy 14 = .ok (.if_icmp .eq 13, 3) := by decide +kernel
theorem dd_Ce_versionWrittenBy_17 : decode bb_Ce_versionWrittenBy 17 = .ok (.aload_n 2, 1) := by decide +kernel
theorem dd_Ce_versionWrittenBy_18 : decode bb_Ce_versionWrittenBy 18 = .ok (.getfield 64, 3) := by decide +kernel
theorem dd_Ce_versionWrittenBy_21 : decode bb_Ce_versionWrittenBy 21 = .ok (.iload_n 1, 1) := by decide +kernel
theorem dd_Ce_versionWrittenBy_22 : decode bb_Ce_versionWrittenBy 22 = .ok (.if_icmp .ne 5, 3) := by decide +kernel
theorem dd_Ce_versionWrittenBy_25 : decode bb_Ce_versionWrittenBy 25 = .ok (.aload_n 2, 1) := by decide +kernel
theorem dd_Ce_versionWrittenBy_26 : decode bb_Ce_versionWrittenBy 26 = .ok (.areturn, 1) := by decide +kernel
theorem dd_Ce_versionWrittenBy_27 : decode bb_Ce_versionWrittenBy 27 = .ok (.aload_n 2, 1) := by decide +kernel
theorem dd_Ce_versionWrittenBy_28 : decode bb_Ce_versionWrittenBy 28 = .ok (.getfield 68, 3) := by decide +kernel
theorem dd_Ce_versionWrittenBy_31 : decode bb_Ce_versionWrittenBy 31 = .ok (.astore_n 2, 1) := by decide +kernel
theorem dd_Ce_versionWrittenBy_32 : decode bb_Ce_versionWrittenBy 32 = .ok (.goto (-27), 3) := by decide +kernel
theorem dd_Ce_versionWrittenBy_35 : decode bb_Ce_versionWrittenBy 35 = .ok (.aconst_null, 1) := by decide +kernel
theorem dd_Ce_versionWrittenBy_36 : decode bb_Ce_versionWrittenBy 36 = .ok (.areturn, 1) := by decide +kernel
theorem dd_Ce_lastWrittenBefore_0 : decode bb_Ce_lastWrittenBefore 0 = .ok (.aload_n 0, 1) := by decide +kernel
theorem dd_Ce_lastWrittenBefore_1 : decode bb_Ce_lastWrittenBefore 1 = .ok (.getfield 15, 3) := by decide +kernel
theorem dd_Ce_lastWrittenBefore_4 : decode bb_Ce_lastWrittenBefore 4 = .ok (.astore_n 2, 1) := by decide +kernel
theorem dd_Ce_lastWrittenBefore_5 : decode bb_Ce_lastWrittenBefore 5 = .ok (.aload_n 2, 1) := by decide +kernel
theorem dd_Ce_lastWrittenBefore_6 : decode bb_Ce_lastWrittenBefore 6 = .ok (.ifnull 29, 3) := by decide +kernel
theorem dd_Ce_lastWrittenBefore_9 : decode bb_Ce_lastWrittenBefore 9 = .ok (.aload_n 2, 1) := by decide +kernel
theorem dd_Ce_lastWrittenBefore_10 : decode bb_Ce_lastWrittenBefore 10 = .ok (.getfield 61, 3) := by decide +kernel
theorem dd_Ce_lastWrittenBefore_13 : decode bb_Ce_lastWrittenBefore 13 = .ok (.iconst 3, 1) := by decide +kernel
theorem dd_Ce_lastWrittenBefore_14 : decode bb_Ce_lastWrittenBefore 14 = .ok (.if_icmp .eq 13, 3) := by decide +kernel
theorem dd_Ce_lastWrittenBefore_17 : decode bb_Ce_lastWrittenBefore 17 = .ok (.aload_n 2, 1) := by decide +kernel
theorem dd_Ce_lastWrittenBefore_18 : decode bb_Ce_lastWrittenBefore 18 = .ok (.getfield 65, 3) := by decide +kernel
theorem dd_Ce_lastWrittenBefore_21 : decode bb_Ce_lastWrittenBefore 21 = .ok (.iload_n 1, 1) := by decide +kernel
theorem dd_Ce_lastWrittenBefore_22 : decode bb_Ce_lastWrittenBefore 22 = .ok (.if_icmp .ge 5, 3) := by decide +kernel
theorem dd_Ce_lastWrittenBefore_25 : decode bb_Ce_lastWrittenBefore 25 = .ok (.aload_n 2, 1) := by decide +kernel
theorem dd_Ce_lastWrittenBefore_26 : decode bb_Ce_lastWrittenBefore 26 = .ok (.areturn, 1) := by decide +kernel
theorem dd_Ce_lastWrittenBefore_27 : decode bb_Ce_lastWrittenBefore 27 = .ok (.aload_n 2, 1) := by decide +kernel
theorem dd_Ce_lastWrittenBefore_28 : decode bb_Ce_lastWrittenBefore 28 = .ok (.getfield 68, 3) := by decide +kernel
theorem dd_Ce_lastWrittenBefore_31 : decode bb_Ce_lastWrittenBefore 31 = .ok (.astore_n 2, 1) := by decide +kernel
theorem dd_Ce_lastWrittenBefore_32 : decode bb_Ce_lastWrittenBefore 32 = .ok (.goto (-27), 3) := by decide +kernel
theorem dd_Ce_lastWrittenBefore_35 : decode bb_Ce_lastWrittenBefore 35 = .ok (.aconst_null, 1) := by decide +kernel
theorem dd_Ce_lastWrittenBefore_36 : decode bb_Ce_lastWrittenBefore 36 = .ok (.areturn, 1) := by decide +kernel
theorem dd_Ce_versionAt_0 : decode bb_Ce_versionAt 0 = .ok (.iload_n 1, 1) := by decide +kernel
theorem dd_Ce_versionAt_1 : decode bb_Ce_versionAt 1 = .ok (.ifCond .ge 5, 3) := by decide +kernel
theorem dd_Ce_versionAt_4 : decode bb_Ce_versionAt 4 = .ok (.aconst_null, 1) := by decide +kernel
theorem dd_Ce_versionAt_5 : decode bb_Ce_versionAt 5 = .ok (.areturn, 1) := by decide +kernel
theorem dd_Ce_versionAt_6 : decode bb_Ce_versionAt 6 = .ok (.aload_n 0, 1) := by decide +kernel
theorem dd_Ce_versionAt_7 : decode bb_Ce_versionAt 7 = .ok (.getfield 15, 3) := by decide +kernel
theorem dd_Ce_versionAt_10 : decode bb_Ce_versionAt 10 = .ok (.astore_n 2, 1) := by decide +kernel
theorem dd_Ce_versionAt_11 : decode bb_Ce_versionAt 11 = .ok (.iconst 0, 1) := by decide +kernel
theorem dd_Ce_versionAt_12 : decode bb_Ce_versionAt 12 = .ok (.istore_n 3, 1) := by decide +kernel
theorem dd_Ce_versionAt_13 : decode bb_Ce_versionAt 13 = .ok (.iload_n 3, 1) := by decide +kernel
theorem dd_Ce_versionAt_14 : decode bb_Ce_versionAt 14 = .ok (.iload_n 1, 1) := by decide +kernel
theorem dd_Ce_versionAt_15 : decode bb_Ce_versionAt 15 = .ok (.if_icmp .ge 18, 3) := by decide +kernel
theorem dd_Ce_versionAt_18 : decode bb_Ce_versionAt 18 = .ok (.aload_n 2, 1) := by decide +kernel
theorem dd_Ce_versionAt_19 : decode bb_Ce_versionAt 19 = .ok (.ifnull 14, 3) := by decide +kernel
theorem dd_Ce_versionAt_22 : decode bb_Ce_versionAt 22 = .ok (.aload_n 2, 1) := by decide +kernel
theorem dd_Ce_versionAt_23 : decode bb_Ce_versionAt 23 = .ok (.getfield 68, 3) := by decide +kernel
theorem dd_Ce_versionAt_26 : decode bb_Ce_versionAt 26 = .ok (.astore_n 2, 1) := by decide +kernel
theorem dd_Ce_versionAt_27 : decode bb_Ce_versionAt 27 = .ok (.iinc 3 1, 3) := by decide +kernel
theorem dd_Ce_versionAt_30 : decode bb_Ce_versionAt 30 = .ok (.goto (-17), 3) := by decide +kernel
theorem dd_Ce_versionAt_33 : decode bb_Ce_versionAt 33 = .ok (.aload_n 2, 1) := by decide +kernel
theorem dd_Ce_versionAt_34 : decode bb_Ce_versionAt 34 = .ok (.areturn, 1) := by decide +kernel
theorem dd_Ce_forgetBefore_0 : decode bb_Ce_forgetBefore 0 = .ok (.aconst_null, 1) := by decide +kernel
theorem dd_Ce_forgetBefore_1 : decode bb_Ce_forgetBefore 1 = .ok (.astore_n 2, 1) := by decide +kernel
theorem dd_Ce_forgetBefore_2 : decode bb_Ce_forgetBefore 2 = .ok (.iconst 0, 1) := by decide +kernel
theorem dd_Ce_forgetBefore_3 : decode bb_Ce_forgetBefore 3 = .ok (.istore_n 3, 1) := by decide +kernel
theorem dd_Ce_forgetBefore_4 : decode bb_Ce_forgetBefore 4 = .ok (.aload_n 0, 1) := by decide +kernel
theorem dd_Ce_forgetBefore_5 : decode bb_Ce_forgetBefore 5 = .ok (.getfield 15, 3) := by decide +kernel
theorem dd_Ce_forgetBefore_8 : decode bb_Ce_forgetBefore 8 = .ok (.astore 4, 2) := by decide +kernel
theorem dd_Ce_forgetBefore_10 : decode bb_Ce_forgetBefore 10 = .ok (.aload 4, 2) := by decide +kernel
theorem dd_Ce_forgetBefore_12 : decode bb_Ce_forgetBefore 12 = .ok (.ifnull 80, 3) := by decide +kernel
theorem dd_Ce_forgetBefore_15 : decode bb_Ce_forgetBefore 15 = .ok (.aload 4, 2) := by decide +kernel
theorem dd_Ce_forgetBefore_17 : decode bb_Ce_forgetBefore 17 = .ok (.getfield 65, 3) := by decide +kernel
theorem dd_Ce_forgetBefore_20 : decode bb_Ce_forgetBefore 20 = .ok (.iload_n 1, 1) := by decide +kernel
theorem dd_Ce_forgetBefore_21 : decode bb_Ce_forgetBefore 21 = .ok (.if_icmp .ge 20, 3) := by decide +kernel
theorem dd_Ce_forgetBefore_24 : decode bb_Ce_forgetBefore 24 = .ok (.aload 4, 2) := by decide +kernel
theorem dd_Ce_forgetBefore_26 : decode bb_Ce_forgetBefore 26 = .ok (.getfield 61, 3) := by decide +kernel
theorem dd_Ce_forgetBefore_29 : decode bb_Ce_forgetBefore 29 = .ok (.iconst 1, 1) := by decide +kernel
theorem dd_Ce_forgetBefore_30 : decode bb_Ce_forgetBefore 30 = .ok (.if_icmp .ne 7, 3) := by decide +kernel
theorem dd_Ce_forgetBefore_33 : decode bb_Ce_forgetBefore 33 = .ok (.iload_n 3, 1) := by decide +kernel
theorem dd_Ce_forgetBefore_34 : decode bb_Ce_forgetBefore 34 = .ok (.ifCond .eq 7, 3) := by decide +kernel
theorem dd_Ce_forgetBefore_37 : decode bb_Ce_forgetBefore 37 = .ok (.iconst 1, 1) := by decide +kernel
theorem dd_Ce_forgetBefore_38 : decode bb_Ce_forgetBefore 38 = .ok (.goto 4, 3) := by decide +kernel
theorem dd_Ce_forgetBefore_41 : decode bb_Ce_forgetBefore 41 = .ok (.iconst 0, 1) := by decide +kernel
theorem dd_Ce_forgetBefore_42 : decode bb_Ce_forgetBefore 42 = .ok (.istore 5, 2) := by decide +kernel
theorem dd_Ce_forgetBefore_44 : decode bb_Ce_forgetBefore 44 = .ok (.aload 4, 2) := by decide +kernel
theorem dd_Ce_forgetBefore_46 : decode bb_Ce_forgetBefore 46 = .ok (.getfield 65, 3) := by decide +kernel
theorem dd_Ce_forgetBefore_49 : decode bb_Ce_forgetBefore 49 = .ok (.iload_n 1, 1) := by decide +kernel
theorem dd_Ce_forgetBefore_50 : decode bb_Ce_forgetBefore 50 = .ok (.if_icmp .ge 14, 3) := by decide +kernel
theorem dd_Ce_forgetBefore_53 : decode bb_Ce_forgetBefore 53 = .ok (.aload 4, 2) := by decide +kernel
theorem dd_Ce_forgetBefore_55 : decode bb_Ce_forgetBefore 55 = .ok (.getfield 61, 3) := by decide +kernel
theorem dd_Ce_forgetBefore_58 : decode bb_Ce_forgetBefore 58 = .ok (.iconst 3, 1) := by decide +kernel
theorem dd_Ce_forgetBefore_59 : decode bb_Ce_forgetBefore 59 = .ok (.if_icmp .eq 5, 3) := by decide +kernel
theorem dd_Ce_forgetBefore_62 : decode bb_Ce_forgetBefore 62 = .ok (.iconst 1, 1) := by decide +kernel
theorem dd_Ce_forgetBefore_63 : decode bb_Ce_forgetBefore 63 = .ok (.istore_n 3, 1) := by decide +kernel
theorem dd_Ce_forgetBefore_64 : decode bb_Ce_forgetBefore 64 = .ok (.iload 5, 2) := by decide +kernel
theorem dd_Ce_forgetBefore_66 : decode bb_Ce_forgetBefore 66 = .ok (.ifCond .eq 13, 3) := by decide +kernel
theorem dd_Ce_forgetBefore_69 : decode bb_Ce_forgetBefore 69 = .ok (.aload_n 0, 1) := by decide +kernel
theorem dd_Ce_forgetBefore_70 : decode bb_Ce_forgetBefore 70 = .ok (.aload_n 2, 1) := by decide +kernel
theorem dd_Ce_forgetBefore_71 : decode bb_Ce_forgetBefore 71 = .ok (.aload 4, 2) := by decide +kernel
theorem dd_Ce_forgetBefore_73 : decode bb_Ce_forgetBefore 73 = .ok (.invokevirtual 71, 3) := by decide +kernel
theorem dd_Ce_forgetBefore_76 : decode bb_Ce_forgetBefore 76 = .ok (.goto 6, 3) := by decide +kernel
theorem dd_Ce_forgetBefore_79 : decode bb_Ce_forgetBefore 79 = .ok (.aload 4, 2) := by decide +kernel
theorem dd_Ce_forgetBefore_81 : decode bb_Ce_forgetBefore 81 = .ok (.astore_n 2, 1) := by decide +kernel
theorem dd_Ce_forgetBefore_82 : decode bb_Ce_forgetBefore 82 = .ok (.aload 4, 2) := by decide +kernel
theorem dd_Ce_forgetBefore_84 : decode bb_Ce_forgetBefore 84 = .ok (.getfield 68, 3) := by decide +kernel
theorem dd_Ce_forgetBefore_87 : decode bb_Ce_forgetBefore 87 = .ok (.astore 4, 2) := by decide +kernel
theorem dd_Ce_forgetBefore_89 : decode bb_Ce_forgetBefore 89 = .ok (.goto (-79), 3) := by decide +kernel
theorem dd_Ce_forgetBefore_92 : decode bb_Ce_forgetBefore 92 = .ok (.return_, 1) := by decide +kernel
theorem dd_Ce_removeBehind_0 : decode bb_Ce_removeBehind 0 = .ok (.aload_n 0, 1) := by decide +kernel
theorem dd_Ce_removeBehind_1 : decode bb_Ce_removeBehind 1 = .ok (.dup, 1) := by decide +kernel
theorem dd_Ce_removeBehind_2 : decode bb_Ce_removeBehind 2 = .ok (.getfield 19, 3) := by decide +kernel
theorem dd_Ce_removeBehind_5 : decode bb_Ce_removeBehind 5 = .ok (.iconst 1, 1) := by decide +kernel
theorem dd_Ce_removeBehind_6 : decode bb_Ce_removeBehind 6 = .ok (.isub, 1) := by decide +kernel
theorem dd_Ce_removeBehind_7 : decode bb_Ce_removeBehind 7 = .ok (.putfield 19, 3) := by decide +kernel
theorem dd_Ce_removeBehind_10 : decode bb_Ce_removeBehind 10 = .ok (.aload_n 1, 1) := by decide +kernel
theorem dd_Ce_removeBehind_11 : decode bb_Ce_removeBehind 11 = .ok (.ifnonnull 14, 3) := by decide +kernel
theorem dd_Ce_removeBehind_14 : decode bb_Ce_removeBehind 14 = .ok (.aload_n 0, 1) := by decide +kernel
theorem dd_Ce_removeBehind_15 : decode bb_Ce_removeBehind 15 = .ok (.aload_n 2, 1) := by decide +kernel
theorem dd_Ce_removeBehind_16 : decode bb_Ce_removeBehind 16 = .ok (.getfield 68, 3) := by decide +kernel
theorem dd_Ce_removeBehind_19 : decode bb_Ce_removeBehind 19 = .ok (.putfield 15, 3) := by decide +kernel
theorem dd_Ce_removeBehind_22 : decode bb_Ce_removeBehind 22 = .ok (.goto 11, 3) := by decide +kernel
theorem dd_Ce_removeBehind_25 : decode bb_Ce_removeBehind 25 = .ok (.aload_n 1, 1) := by decide +kernel
theorem dd_Ce_removeBehind_26 : decode bb_Ce_removeBehind 26 = .ok (.aload_n 2, 1) := by decide +kernel
theorem dd_Ce_removeBehind_27 : decode bb_Ce_removeBehind 27 = .ok (.getfield 68, 3) := by decide +kernel
theorem dd_Ce_removeBehind_30 : decode bb_Ce_removeBehind 30 = .ok (.putfield 68, 3) := by decide +kernel
theorem dd_Ce_removeBehind_33 : decode bb_Ce_removeBehind 33 = .ok (.return_, 1) := by decide +kernel
theorem dd_Ce_keep_0 : decode bb_Ce_keep 0 = .ok (.aload_n 0, 1) := by decide +kernel
theorem dd_Ce_keep_1 : decode bb_Ce_keep 1 = .ok (.getfield 19, 3) := by decide +kernel
theorem dd_Ce_keep_4 : decode bb_Ce_keep 4 = .ok (.sipush 512, 3) := by decide +kernel
theorem dd_Ce_keep_7 : decode bb_Ce_keep 7 = .ok (.if_icmp .lt 4, 3) := by decide +kernel
theorem dd_Ce_keep_10 : decode bb_Ce_keep 10 = .ok (.return_, 1) := by decide +kernel
theorem dd_Ce_keep_11 : decode bb_Ce_keep 11 = .ok (.aconst_null, 1) := by decide +kernel
theorem dd_Ce_keep_12 : decode bb_Ce_keep 12 = .ok (.astore_n 2, 1) := by decide +kernel
theorem dd_Ce_keep_13 : decode bb_Ce_keep 13 = .ok (.aload_n 0, 1) := by decide +kernel
theorem dd_Ce_keep_14 : decode bb_Ce_keep 14 = .ok (.getfield 15, 3) := by decide +kernel
theorem dd_Ce_keep_17 : decode bb_Ce_keep 17 = .ok (.astore_n 3, 1) := by decide +kernel
theorem dd_Ce_keep_18 : decode bb_Ce_keep 18 = .ok (.aload_n 3, 1) := by decide +kernel
theorem dd_Ce_keep_19 : decode bb_Ce_keep 19 = .ok (.ifnull 24, 3) := by decide +kernel
theorem dd_Ce_keep_22 : decode bb_Ce_keep 22 = .ok (.aload_n 3, 1) := by decide +kernel
theorem dd_Ce_keep_23 : decode bb_Ce_keep 23 = .ok (.getfield 65, 3) := by decide +kernel
theorem dd_Ce_keep_26 : decode bb_Ce_keep 26 = .ok (.aload_n 1, 1) := by decide +kernel
theorem dd_Ce_keep_27 : decode bb_Ce_keep 27 = .ok (.getfield 65, 3) := by decide +kernel
theorem dd_Ce_keep_30 : decode bb_Ce_keep 30 = .ok (.if_icmp .le 13, 3) := by decide +kernel
theorem dd_Ce_keep_33 : decode bb_Ce_keep 33 = .ok (.aload_n 3, 1) := by decide +kernel
theorem dd_Ce_keep_34 : decode bb_Ce_keep 34 = .ok (.astore_n 2, 1) := by decide +kernel
theorem dd_Ce_keep_35 : decode bb_Ce_keep 35 = .ok (.aload_n 3, 1) := by decide +kernel
theorem dd_Ce_keep_36 : decode bb_Ce_keep 36 = .ok (.getfield 68, 3) := by decide +kernel
theorem dd_Ce_keep_39 : decode bb_Ce_keep 39 = .ok (.astore_n 3, 1) := by decide +kernel
theorem dd_Ce_keep_40 : decode bb_Ce_keep 40 = .ok (.goto (-22), 3) := by decide +kernel
theorem dd_Ce_keep_43 : decode bb_Ce_keep 43 = .ok (.aload_n 1, 1) := by decide +kernel
theorem dd_Ce_keep_44 : decode bb_Ce_keep 44 = .ok (.aload_n 3, 1) := by decide +kernel
theorem dd_Ce_keep_45 : decode bb_Ce_keep 45 = .ok (.putfield 68, 3) := by decide +kernel
theorem dd_Ce_keep_48 : decode bb_Ce_keep 48 = .ok (.aload_n 2, 1) := by decide +kernel
theorem dd_Ce_keep_49 : decode bb_Ce_keep 49 = .ok (.ifnonnull 11, 3) := by decide +kernel
theorem dd_Ce_keep_52 : decode bb_Ce_keep 52 = .ok (.aload_n 0, 1) := by decide +kernel
theorem dd_Ce_keep_53 : decode bb_Ce_keep 53 = .ok (.aload_n 1, 1) := by decide +kernel
theorem dd_Ce_keep_54 : decode bb_Ce_keep 54 = .ok (.putfield 15, 3) := by decide +kernel
theorem dd_Ce_keep_57 : decode bb_Ce_keep 57 = .ok (.goto 8, 3) := by decide +kernel
theorem dd_Ce_keep_60 : decode bb_Ce_keep 60 = .ok (.aload_n 2, 1) := by decide +kernel
theorem dd_Ce_keep_61 : decode bb_Ce_keep 61 = .ok (.aload_n 1, 1) := by decide +kernel
theorem dd_Ce_keep_62 : decode bb_Ce_keep 62 = .ok (.putfield 68, 3) := by decide +kernel
theorem dd_Ce_keep_65 : decode bb_Ce_keep 65 = .ok (.aload_n 0, 1) := by decide +kernel
theorem dd_Ce_keep_66 : decode bb_Ce_keep 66 = .ok (.dup, 1) := by decide +kernel
theorem dd_Ce_keep_67 : decode bb_Ce_keep 67 = .ok (.getfield 19, 3) := by decide +kernel
theorem dd_Ce_keep_70 : decode bb_Ce_keep 70 = .ok (.iconst 1, 1) := by decide +kernel
theorem dd_Ce_keep_71 : decode bb_Ce_keep 71 = .ok (.iadd, 1) := by decide +kernel
theorem dd_Ce_keep_72 : decode bb_Ce_keep 72 = .ok (.putfield 19, 3) := by decide +kernel
theorem dd_Ce_keep_75 : decode bb_Ce_keep 75 = .ok (.return_, 1) := by decide +kernel
theorem dd_TC_isClient_0 : decode bb_TC_isClient 0 = .ok (.iload_n 0, 1) := by decide +kernel
theorem dd_TC_isClient_1 : decode bb_TC_isClient 1 = .ok (.ifCond .lt 12, 3) := by decide +kernel
theorem dd_TC_isClient_4 : decode bb_TC_isClient 4 = .ok (.iload_n 0, 1) := by decide +kernel
theorem dd_TC_isClient_5 : decode bb_TC_isClient 5 = .ok (.iconst 4, 1) := by decide +kernel
theorem dd_TC_isClient_6 : decode bb_TC_isClient 6 = .ok (.if_icmp .ge 7, 3) := by decide +kernel
theorem dd_TC_isClient_9 : decode bb_TC_isClient 9 = .ok (.iconst 1, 1) := by decide +kernel
theorem dd_TC_isClient_10 : decode bb_TC_isClient 10 = .ok (.goto 4, 3) := by decide +kernel
theorem dd_TC_isClient_13 : decode bb_TC_isClient 13 = .ok (.iconst 0, 1) := by decide +kernel
theorem dd_TC_isClient_14 : decode bb_TC_isClient 14 = .ok (.ireturn, 1) := by decide +kernel
theorem dd_TC_isCell_0 : decode bb_TC_isCell 0 = .ok (.iload_n 0, 1) := by decide +kernel
theorem dd_TC_isCell_1 : decode bb_TC_isCell 1 = .ok (.ifCond .lt 13, 3) := by decide +kernel
theorem dd_TC_isCell_4 : decode bb_TC_isCell 4 = .ok (.iload_n 0, 1) := by decide +kernel
theorem dd_TC_isCell_5 : decode bb_TC_isCell 5 = .ok (.bipush 12, 2) := by decide +kernel
theorem dd_TC_isCell_7 : decode bb_TC_isCell 7 = .ok (.if_icmp .ge 7, 3) := by decide +kernel
theorem dd_TC_isCell_10 : decode bb_TC_isCell 10 = .ok (.iconst 1, 1) := by decide +kernel
theorem dd_TC_isCell_11 : decode bb_TC_isCell 11 = .ok (.goto 4, 3) := by decide +kernel
theorem dd_TC_isCell_14 : decode bb_TC_isCell 14 = .ok (.iconst 0, 1) := by decide +kernel
theorem dd_TC_isCell_15 : decode bb_TC_isCell 15 = .ok (.ireturn, 1) := by decide +kernel
theorem dd_TC_isTablet_0 : decode bb_TC_isTablet 0 = .ok (.iload_n 0, 1) := by decide +kernel
theorem dd_TC_isTablet_1 : decode bb_TC_isTablet 1 = .ok (.ifCond .lt 12, 3) := by decide +kernel
theorem dd_TC_isTablet_4 : decode bb_TC_isTablet 4 = .ok (.iload_n 0, 1) := by decide +kernel
theorem dd_TC_isTablet_5 : decode bb_TC_isTablet 5 = .ok (.iconst 3, 1) := by decide +kernel
theorem dd_TC_isTablet_6 : decode bb_TC_isTablet 6 = .ok (.if_icmp .ge 7, 3) := by decide +kernel
theorem dd_TC_isTablet_9 : decode bb_TC_isTablet 9 = .ok (.iconst 1, 1) := by decide +kernel
theorem dd_TC_isTablet_10 : decode bb_TC_isTablet 10 = .ok (.goto 4, 3) := by decide +kernel
theorem dd_TC_isTablet_13 : decode bb_TC_isTablet 13 = .ok (.iconst 0, 1) := by decide +kernel
theorem dd_TC_isTablet_14 : decode bb_TC_isTablet 14 = .ok (.ireturn, 1) := by decide +kernel
theorem dd_TC_asNumber_0 : decode bb_TC_asNumber 0 = .ok (.iload_n 0, 1) := by decide +kernel
theorem dd_TC_asNumber_1 : decode bb_TC_asNumber 1 = .ok (.ifCond .eq 7, 3) := by decide +kernel
theorem dd_TC_asNumber_4 : decode bb_TC_asNumber 4 = .ok (.iconst 1, 1) := by decide +kernel
theorem dd_TC_asNumber_5 : decode bb_TC_asNumber 5 = .ok (.goto 4, 3) := by decide +kernel
theorem dd_TC_asNumber_8 : decode bb_TC_asNumber 8 = .ok (.iconst 0, 1) := by decide +kernel
theorem dd_TC_asNumber_9 : decode bb_TC_asNumber 9 = .ok (.ireturn, 1) := by decide +kernel
theorem dd_TC_endByConflict_0 : decode bb_TC_endByConflict 0 = .ok (.aload_n 0, 1) := by decide +kernel
theorem dd_TC_endByConflict_1 : decode bb_TC_endByConflict 1 = .ok (.invokevirtual 154, 3) := by decide +kernel
theorem dd_TC_endByConflict_4 : decode bb_TC_endByConflict 4 = .ok (.iconst 0, 1) := by decide +kernel
theorem dd_TC_endByConflict_5 : decode bb_TC_endByConflict 5 = .ok (.ireturn, 1) := by decide +kernel
theorem dd_TC_leastOf_0 : decode bb_TC_leastOf 0 = .ok (.iconst 0, 1) := by decide +kernel
theorem dd_TC_leastOf_1 : decode bb_TC_leastOf 1 = .ok (.istore_n 1, 1) := by decide +kernel
theorem dd_TC_leastOf_2 : decode bb_TC_leastOf 2 = .ok (.iload_n 1, 1) := by decide +kernel
theorem dd_TC_leastOf_3 : decode bb_TC_leastOf 3 = .ok (.bipush 11, 2) := by decide +kernel
theorem dd_TC_leastOf_5 : decode bb_TC_leastOf 5 = .ok (.if_icmp .ge 17, 3) := by decide +kernel
theorem dd_TC_leastOf_8 : decode bb_TC_leastOf 8 = .ok (.iload_n 0, 1) := by decide +kernel
theorem dd_TC_leastOf_9 : decode bb_TC_leastOf 9 = .ok (.iload_n 1, 1) := by decide +kernel
theorem dd_TC_leastOf_10 : decode bb_TC_leastOf 10 = .ok (.ishr, 1) := by decide +kernel
theorem dd_TC_leastOf_11 : decode bb_TC_leastOf 11 = .ok (.iconst 1, 1) := by decide +kernel
theorem dd_TC_leastOf_12 : decode bb_TC_leastOf 12 = .ok (.iand, 1) := by decide +kernel
theorem dd_TC_leastOf_13 : decode bb_TC_leastOf 13 = .ok (.ifCond .ne 9, 3) := by decide +kernel
theorem dd_TC_leastOf_16 : decode bb_TC_leastOf 16 = .ok (.iinc 1 1, 3) := by decide +kernel
theorem dd_TC_leastOf_19 : decode bb_TC_leastOf 19 = .ok (.goto (-17), 3) := by decide +kernel
theorem dd_TC_leastOf_22 : decode bb_TC_leastOf 22 = .ok (.iload_n 1, 1) := by decide +kernel
theorem dd_TC_leastOf_23 : decode bb_TC_leastOf 23 = .ok (.ireturn, 1) := by decide +kernel
end
section
set_option maxRecDepth 20000 in
theorem ct_Or_init {l : Launch} {M : mm_M} {Q : Option Value → mm_M → Prop} {a : Nat} (hk : mm_k M a = some (.inl 1)) (hQ : Q none (mm_si (mm_si M a 0 1) a 1 0)) : ct_ l yy_Or_init bb_Or_init 1 none 1 0 0 [.ref a] M Q := by
  refine ct_of (by decide) (Nat.le_of_ble_eq_true rfl) (fun G A => ?_)
  refine jj_aload_n 0 dd_Or_init_0 rfl ?_
  refine jj_objI dd_Or_init_1 oi_Or_3 (Nat.le_of_ble_eq_true rfl) (Nat.le_of_ble_eq_true rfl) ?_
  refine jj_aload_n 0 dd_Or_init_4 rfl ?_
  refine jj_iconst (v := 1) dd_Or_init_5 rfl ?_
  refine jj_puti dd_Or_init_6 (Or.inl ⟨ff_Or_9, rfl⟩) hk (fun _ => rfl) ⟨rfl, rfl⟩ ?_
  refine jj_aload_n 0 dd_Or_init_9 rfl ?_
  refine jj_iconst (v := 0) dd_Or_init_10 rfl ?_
  refine jj_puti dd_Or_init_11 (Or.inl ⟨ff_Or_15, rfl⟩) hk (fun _ => rfl) ⟨rfl, rfl⟩ ?_
  refine jj_vret dd_Or_init_14 rfl ?_
  exact hQ
set_option maxRecDepth 20000 in
theorem ct_Or_handOut {l : Launch} {M : mm_M} {Q : Option Value → mm_M → Prop} {a : Nat} (hk : mm_k M a = some (.inl 1)) (hQ : Q (some (.int (mm_i M a 0))) (mm_si (mm_si M a 1 (if mm_i M a 1 < mm_i M a 0 then mm_i M a 0 + 7 else mm_i M a 1)) a 0 (mm_i M a 0 + 1))) : ct_ l yy_Or_handOut bb_Or_handOut 2 (some .int) 0 0 0 [.ref a] M Q := by
  refine ct_of (by decide) (Nat.le_of_ble_eq_true rfl) (fun G A => ?_)
  refine jj_aload_n 0 dd_Or_handOut_0 rfl ?_
  refine jj_geti dd_Or_handOut_1 ff_Or_9 hk (fun _ => rfl) ?_
  refine jj_aload_n 0 dd_Or_handOut_4 rfl ?_
  refine jj_geti dd_Or_handOut_5 ff_Or_15 hk (fun _ => rfl) ?_
  refine jj_icmp_le (tgt := 22) dd_Or_handOut_8 (by decide) (fun h8 => ?_) (fun h8 => ?_)
  · skip
    refine jj_aload_n 0 dd_Or_handOut_22 rfl ?_
    refine jj_geti dd_Or_handOut_23 ff_Or_9 hk (fun _ => rfl) ?_
    refine jj_istore_n (lv' := [(1, .int _), (0, .ref a)]) dd_Or_handOut_26 (Nat.le_of_ble_eq_true rfl) rfl ?_
    refine jj_aload_n 1 dd_Or_handOut_27 rfl ?_
    refine jj_dup dd_Or_handOut_28 rfl ?_
    refine jj_geti dd_Or_handOut_29 ff_Or_9 hk (fun _ => rfl) ?_
    refine jj_iconst (v := 1) dd_Or_handOut_32 rfl ?_
    refine jj_iadd dd_Or_handOut_33 ?_
    refine jj_puti dd_Or_handOut_34 (Or.inl ⟨ff_Or_9, rfl⟩) hk (fun _ => rfl) ⟨rfl, rfl⟩ ?_
    refine jj_iload_n 0 dd_Or_handOut_37 rfl ?_
    refine jj_iret dd_Or_handOut_38 rfl rfl ?_
    rw [if_neg (mm_nlt h8), mm_si_self] at hQ
    exact hQ
  · skip
    refine jj_aload_n 0 dd_Or_handOut_11 rfl ?_
    refine jj_aload_n 0 dd_Or_handOut_12 rfl ?_
    refine jj_geti dd_Or_handOut_13 ff_Or_9 hk (fun _ => rfl) ?_
    refine jj_bipush (v := 7) dd_Or_handOut_16 rfl ?_
    refine jj_iadd dd_Or_handOut_18 ?_
    refine jj_puti dd_Or_handOut_19 (Or.inl ⟨ff_Or_15, rfl⟩) hk (fun _ => rfl) ⟨rfl, rfl⟩ ?_
    refine jj_aload_n 0 dd_Or_handOut_22 rfl ?_
    refine jj_geti dd_Or_handOut_23 ff_Or_9 hk (fun _ => rfl) ?_
    refine jj_istore_n (lv' := [(1, .int _), (0, .ref a)]) dd_Or_handOut_26 (Nat.le_of_ble_eq_true rfl) rfl ?_
    refine jj_aload_n 1 dd_Or_handOut_27 rfl ?_
    refine jj_dup dd_Or_handOut_28 rfl ?_
    refine jj_geti dd_Or_handOut_29 ff_Or_9 hk (fun _ => rfl) ?_
    refine jj_iconst (v := 1) dd_Or_handOut_32 rfl ?_
    refine jj_iadd dd_Or_handOut_33 ?_
    refine jj_puti dd_Or_handOut_34 (Or.inl ⟨ff_Or_9, rfl⟩) hk (fun _ => rfl) ⟨rfl, rfl⟩ ?_
    refine jj_iload_n 0 dd_Or_handOut_37 rfl ?_
    refine jj_iret dd_Or_handOut_38 rfl rfl ?_
    rw [if_pos (mm_lt h8)] at hQ
    simpa [mm_ret, mm_k_si, mm_k_sr, mm_i_si, mm_i_sr, mm_r_si, mm_r_sr, mm_si_self] using hQ
set_option maxRecDepth 20000 in
theorem ct_Or_restart {l : Launch} {M : mm_M} {Q : Option Value → mm_M → Prop} {a : Nat} (hk : mm_k M a = some (.inl 1)) (hQ : Q (some (.int (mm_i M a 1 + 1))) (mm_si M a 0 (mm_i M a 1 + 1))) : ct_ l yy_Or_restart bb_Or_restart 1 (some .int) 0 0 0 [.ref a] M Q := by
  refine ct_of (by decide) (Nat.le_of_ble_eq_true rfl) (fun G A => ?_)
  refine jj_aload_n 0 dd_Or_restart_0 rfl ?_
  refine jj_aload_n 0 dd_Or_restart_1 rfl ?_
  refine jj_geti dd_Or_restart_2 ff_Or_15 hk (fun _ => rfl) ?_
  refine jj_iconst (v := 1) dd_Or_restart_5 rfl ?_
  refine jj_iadd dd_Or_restart_6 ?_
  refine jj_puti dd_Or_restart_7 (Or.inl ⟨ff_Or_9, rfl⟩) hk (fun _ => rfl) ⟨rfl, rfl⟩ ?_
  refine jj_aload_n 0 dd_Or_restart_10 rfl ?_
  refine jj_geti dd_Or_restart_11 ff_Or_9 hk (fun _ => rfl) ?_
  refine jj_iret dd_Or_restart_14 rfl rfl ?_
  simpa [mm_ret, mm_k_si, mm_k_sr, mm_i_si, mm_i_sr, mm_r_si, mm_r_sr, mm_si_self] using hQ
set_option maxRecDepth 20000 in
theorem ct_Ta_init {l : Launch} {M : mm_M} {Q : Option Value → mm_M → Prop} {a : Nat} (hk : mm_k M a = some (.inl 2)) (hQ : Q none (mm_si (mm_si (mm_si (mm_si (mm_si (mm_si M a 0 1) a 1 0) a 2 0) a 3 0) a 4 0) a 5 0)) : ct_ l yy_Ta_init bb_Ta_init 1 none 1 0 0 [.ref a] M Q := by
  refine ct_of (by decide) (Nat.le_of_ble_eq_true rfl) (fun G A => ?_)
  refine jj_aload_n 0 dd_Ta_init_0 rfl ?_
  refine jj_objI dd_Ta_init_1 oi_Ta_3 (Nat.le_of_ble_eq_true rfl) (Nat.le_of_ble_eq_true rfl) ?_
  refine jj_aload_n 0 dd_Ta_init_4 rfl ?_
  refine jj_iconst (v := 1) dd_Ta_init_5 rfl ?_
  refine jj_puti dd_Ta_init_6 (Or.inl ⟨ff_Ta_9, rfl⟩) hk (fun _ => rfl) ⟨rfl, rfl⟩ ?_
  refine jj_aload_n 0 dd_Ta_init_9 rfl ?_
  refine jj_iconst (v := 0) dd_Ta_init_10 rfl ?_
  refine jj_puti dd_Ta_init_11 (Or.inl ⟨ff_Ta_15, rfl⟩) hk (fun _ => rfl) ⟨rfl, rfl⟩ ?_
  refine jj_aload_n 0 dd_Ta_init_14 rfl ?_
  refine jj_iconst (v := 0) dd_Ta_init_15 rfl ?_
  refine jj_puti dd_Ta_init_16 (Or.inl ⟨ff_Ta_19, rfl⟩) hk (fun _ => rfl) ⟨rfl, rfl⟩ ?_
  refine jj_aload_n 0 dd_Ta_init_19 rfl ?_
  refine jj_iconst (v := 0) dd_Ta_init_20 rfl ?_
  refine jj_puti dd_Ta_init_21 (Or.inl ⟨ff_Ta_22, rfl⟩) hk (fun _ => rfl) ⟨rfl, rfl⟩ ?_
  refine jj_aload_n 0 dd_Ta_init_24 rfl ?_
  refine jj_iconst (v := 0) dd_Ta_init_25 rfl ?_
  refine jj_puti dd_Ta_init_26 (Or.inl ⟨ff_Ta_25, rfl⟩) hk (fun _ => rfl) ⟨rfl, rfl⟩ ?_
  refine jj_aload_n 0 dd_Ta_init_29 rfl ?_
  refine jj_iconst (v := 0) dd_Ta_init_30 rfl ?_
  refine jj_puti dd_Ta_init_31 (Or.inl ⟨ff_Ta_28, rfl⟩) hk (fun _ => rfl) ⟨rfl, rfl⟩ ?_
  refine jj_vret dd_Ta_init_34 rfl ?_
  exact hQ
set_option maxRecDepth 20000 in
theorem ct_Ta_failAt {l : Launch} {M : mm_M} {Q : Option Value → mm_M → Prop} {a : Nat} {x b : Int32} (hk : mm_k M a = some (.inl 2)) (hb : b = 0 ∨ b = 1) (hQ : Q none (mm_si (mm_si M a 4 x) a 5 b)) : ct_ l yy_Ta_failAt bb_Ta_failAt 3 none 0 0 0 [.ref a, .int x, .int b] M Q := by
  refine ct_of (by decide) (Nat.le_of_ble_eq_true rfl) (fun G A => ?_)
  refine jj_aload_n 0 dd_Ta_failAt_0 rfl ?_
  refine jj_iload_n 1 dd_Ta_failAt_1 rfl ?_
  refine jj_puti dd_Ta_failAt_2 (Or.inl ⟨ff_Ta_25, rfl⟩) hk (fun _ => rfl) ⟨rfl, rfl⟩ ?_
  refine jj_aload_n 0 dd_Ta_failAt_5 rfl ?_
  refine jj_iload_n 2 dd_Ta_failAt_6 rfl ?_
  refine jj_puti dd_Ta_failAt_7 (Or.inl ⟨ff_Ta_28, rfl⟩) hk (fun _ => rfl) (mm_bl hb) ?_
  refine jj_vret dd_Ta_failAt_10 rfl ?_
  exact hQ
set_option maxRecDepth 20000 in
theorem ct_Ta_comeUp {l : Launch} {M : mm_M} {Q : Option Value → mm_M → Prop} {a : Nat} (hk : mm_k M a = some (.inl 2)) (hQ : Q none (mm_si (mm_si M a 0 1) a 4 0)) : ct_ l yy_Ta_comeUp bb_Ta_comeUp 1 none 0 0 0 [.ref a] M Q := by
  refine ct_of (by decide) (Nat.le_of_ble_eq_true rfl) (fun G A => ?_)
  refine jj_aload_n 0 dd_Ta_comeUp_0 rfl ?_
  refine jj_iconst (v := 1) dd_Ta_comeUp_1 rfl ?_
  refine jj_puti dd_Ta_comeUp_2 (Or.inl ⟨ff_Ta_9, rfl⟩) hk (fun _ => rfl) ⟨rfl, rfl⟩ ?_
  refine jj_aload_n 0 dd_Ta_comeUp_5 rfl ?_
  refine jj_iconst (v := 0) dd_Ta_comeUp_6 rfl ?_
  refine jj_puti dd_Ta_comeUp_7 (Or.inl ⟨ff_Ta_25, rfl⟩) hk (fun _ => rfl) ⟨rfl, rfl⟩ ?_
  refine jj_vret dd_Ta_comeUp_10 rfl ?_
  exact hQ
set_option maxRecDepth 20000 in
theorem ct_Ta_answer {l : Launch} {M : mm_M} {Q : Option Value → mm_M → Prop} {a : Nat} {x : Int32} (hk : mm_k M a = some (.inl 2)) (hQ : Q (some (.int (if x = 0 then mm_i M a 2 else if x = 1 then (if mm_i M a 0 = 0 then -1 else mm_i M a 1) else if x = 2 then mm_i M a 3 else -1))) M) : ct_ l yy_Ta_answer bb_Ta_answer 2 (some .int) 0 0 0 [.ref a, .int x] M Q := by
  refine ct_of (by decide) (Nat.le_of_ble_eq_true rfl) (fun G A => ?_)
  refine jj_iload_n 1 dd_Ta_answer_0 rfl ?_
  refine mm_sw3 (x := x) (fun h1 => ?_) (fun h1 => ?_) (fun h1 => ?_) (fun h1 => ?_)
  · skip
    refine jj_tableOut (tgt := 54) dd_Ta_answer_1 h1 (by decide) ?_
    refine jj_iconst (v := (-1)) dd_Ta_answer_54 rfl ?_
    refine jj_iret dd_Ta_answer_55 rfl rfl ?_
    rw [if_neg (mm_out h1 (by decide) (by decide)), if_neg (mm_out h1 (by decide) (by decide)), if_neg (mm_out h1 (by decide) (by decide))] at hQ
    exact hQ
  · skip
    subst h1
    refine jj_tableIn (tgt := 28) dd_Ta_answer_1 (by decide) (by decide) rfl (by decide) ?_
    refine jj_aload_n 0 dd_Ta_answer_28 rfl ?_
    refine jj_geti dd_Ta_answer_29 ff_Ta_19 hk (fun _ => rfl) ?_
    refine jj_iret dd_Ta_answer_32 rfl rfl ?_
    exact hQ
  · skip
    subst h1
    refine jj_tableIn (tgt := 33) dd_Ta_answer_1 (by decide) (by decide) rfl (by decide) ?_
    refine jj_aload_n 0 dd_Ta_answer_33 rfl ?_
    refine jj_geti dd_Ta_answer_34 ff_Ta_9 hk (fun _ => rfl) ?_
    refine jj_if_eq (tgt := 47) dd_Ta_answer_37 (by decide) (fun h37 => ?_) (fun h37 => ?_)
    · skip
      refine jj_iconst (v := (-1)) dd_Ta_answer_47 rfl ?_
      refine jj_iret dd_Ta_answer_48 rfl rfl ?_
      simpa [h37, mm_ret] using hQ
    · skip
      refine jj_aload_n 0 dd_Ta_answer_40 rfl ?_
      refine jj_geti dd_Ta_answer_41 ff_Ta_15 hk (fun _ => rfl) ?_
      refine jj_goto (tgt := 48) dd_Ta_answer_44 (by decide) ?_
      refine jj_iret dd_Ta_answer_48 rfl rfl ?_
      simpa [h37, mm_ret] using hQ
  · skip
    subst h1
    refine jj_tableIn (tgt := 49) dd_Ta_answer_1 (by decide) (by decide) rfl (by decide) ?_
    refine jj_aload_n 0 dd_Ta_answer_49 rfl ?_
    refine jj_geti dd_Ta_answer_50 ff_Ta_22 hk (fun _ => rfl) ?_
    refine jj_iret dd_Ta_answer_53 rfl rfl ?_
    exact hQ
set_option maxRecDepth 20000 in
theorem ct_Ve_init {l : Launch} {M : mm_M} {Q : Option Value → mm_M → Prop} {a : Nat} {x0 x1 x2 x3 : Int32} (hk : mm_k M a = some (.inl 5)) (hQ : Q none (mm_si (mm_si (mm_si (mm_si (mm_sr M a 4 none) a 0 x0) a 1 x1) a 2 x2) a 3 x3)) : ct_ l yy_Ve_init bb_Ve_init 5 none 1 0 0 [.ref a, .int x0, .int x1, .int x2, .int x3] M Q := by
  refine ct_of (by decide) (Nat.le_of_ble_eq_true rfl) (fun G A => ?_)
  refine jj_aload_n 0 dd_Ve_init_0 rfl ?_
  refine jj_objI dd_Ve_init_1 oi_Ve_3 (Nat.le_of_ble_eq_true rfl) (Nat.le_of_ble_eq_true rfl) ?_
  refine jj_aload_n 0 dd_Ve_init_4 rfl ?_
  refine jj_null dd_Ve_init_5 ?_
  refine jj_putr none dd_Ve_init_6 (Or.inl ⟨ff_Ve_9, rfl⟩) hk (fun _ => rfl) (mm_nr rfl) ?_
  refine jj_aload_n 0 dd_Ve_init_9 rfl ?_
  refine jj_iload_n 1 dd_Ve_init_10 rfl ?_
  refine jj_puti dd_Ve_init_11 (Or.inr ⟨fg_Ve_15, rfl⟩) hk (fun _ => rfl) ⟨rfl, rfl⟩ ?_
  refine jj_aload_n 0 dd_Ve_init_14 rfl ?_
  refine jj_iload_n 2 dd_Ve_init_15 rfl ?_
  refine jj_puti dd_Ve_init_16 (Or.inr ⟨fg_Ve_19, rfl⟩) hk (fun _ => rfl) ⟨rfl, rfl⟩ ?_
  refine jj_aload_n 0 dd_Ve_init_19 rfl ?_
  refine jj_iload_n 3 dd_Ve_init_20 rfl ?_
  refine jj_puti dd_Ve_init_21 (Or.inr ⟨fg_Ve_22, rfl⟩) hk (fun _ => rfl) ⟨rfl, rfl⟩ ?_
  refine jj_aload_n 0 dd_Ve_init_24 rfl ?_
  refine jj_iload 4 dd_Ve_init_25 rfl ?_
  refine jj_puti dd_Ve_init_27 (Or.inr ⟨fg_Ve_25, rfl⟩) hk (fun _ => rfl) ⟨rfl, rfl⟩ ?_
  refine jj_vret dd_Ve_init_30 rfl ?_
  exact hQ
set_option maxRecDepth 20000 in
theorem ct_Ve_answer {l : Launch} {M : mm_M} {Q : Option Value → mm_M → Prop} {a : Nat} {x : Int32} (hk : mm_k M a = some (.inl 5)) (hQ : Q (some (.int (if x = 0 then mm_i M a 0 else if x = 1 then mm_i M a 1 else if x = 2 then mm_i M a 2 else if x = 3 then mm_i M a 3 else -1))) M) : ct_ l yy_Ve_answer bb_Ve_answer 2 (some .int) 0 0 0 [.ref a, .int x] M Q := by
  refine ct_of (by decide) (Nat.le_of_ble_eq_true rfl) (fun G A => ?_)
  refine jj_iload_n 1 dd_Ve_answer_0 rfl ?_
  refine mm_sw4 (x := x) (fun h1 => ?_) (fun h1 => ?_) (fun h1 => ?_) (fun h1 => ?_) (fun h1 => ?_)
  · skip
    refine jj_tableOut (tgt := 52) dd_Ve_answer_1 h1 (by decide) ?_
    refine jj_iconst (v := (-1)) dd_Ve_answer_52 rfl ?_
    refine jj_iret dd_Ve_answer_53 rfl rfl ?_
    rw [if_neg (mm_out h1 (by decide) (by decide)), if_neg (mm_out h1 (by decide) (by decide)), if_neg (mm_out h1 (by decide) (by decide)), if_neg (mm_out h1 (by decide) (by decide))] at hQ
    exact hQ
  · skip
    subst h1
    refine jj_tableIn (tgt := 32) dd_Ve_answer_1 (by decide) (by decide) rfl (by decide) ?_
    refine jj_aload_n 0 dd_Ve_answer_32 rfl ?_
    refine jj_geti dd_Ve_answer_33 ff_Ve_15 hk (fun _ => rfl) ?_
    refine jj_iret dd_Ve_answer_36 rfl rfl ?_
    exact hQ
  · skip
    subst h1
    refine jj_tableIn (tgt := 37) dd_Ve_answer_1 (by decide) (by decide) rfl (by decide) ?_
    refine jj_aload_n 0 dd_Ve_answer_37 rfl ?_
    refine jj_geti dd_Ve_answer_38 ff_Ve_19 hk (fun _ => rfl) ?_
    refine jj_iret dd_Ve_answer_41 rfl rfl ?_
    exact hQ
  · skip
    subst h1
    refine jj_tableIn (tgt := 42) dd_Ve_answer_1 (by decide) (by decide) rfl (by decide) ?_
    refine jj_aload_n 0 dd_Ve_answer_42 rfl ?_
    refine jj_geti dd_Ve_answer_43 ff_Ve_22 hk (fun _ => rfl) ?_
    refine jj_iret dd_Ve_answer_46 rfl rfl ?_
    exact hQ
  · skip
    subst h1
    refine jj_tableIn (tgt := 47) dd_Ve_answer_1 (by decide) (by decide) rfl (by decide) ?_
    refine jj_aload_n 0 dd_Ve_answer_47 rfl ?_
    refine jj_geti dd_Ve_answer_48 ff_Ve_25 hk (fun _ => rfl) ?_
    refine jj_iret dd_Ve_answer_51 rfl rfl ?_
    exact hQ
set_option maxRecDepth 20000 in
theorem ct_Lo_init {l : Launch} {M : mm_M} {Q : Option Value → mm_M → Prop} {a : Nat} {x0 x1 x2 x3 x4 x5 : Int32} (hk : mm_k M a = some (.inl 4)) (hb : x4 = 0 ∨ x4 = 1) (hQ : Q none (mm_si (mm_si (mm_si (mm_si (mm_si (mm_si M a 0 x0) a 1 x1) a 2 x2) a 3 x3) a 4 x4) a 5 x5)) : ct_ l yy_Lo_init bb_Lo_init 7 none 1 0 0 [.ref a, .int x0, .int x1, .int x2, .int x3, .int x4, .int x5] M Q := by
  refine ct_of (by decide) (Nat.le_of_ble_eq_true rfl) (fun G A => ?_)
  refine jj_aload_n 0 dd_Lo_init_0 rfl ?_
  refine jj_objI dd_Lo_init_1 oi_Lo_3 (Nat.le_of_ble_eq_true rfl) (Nat.le_of_ble_eq_true rfl) ?_
  refine jj_aload_n 0 dd_Lo_init_4 rfl ?_
  refine jj_iload_n 1 dd_Lo_init_5 rfl ?_
  refine jj_puti dd_Lo_init_6 (Or.inr ⟨fg_Lo_9, rfl⟩) hk (fun _ => rfl) ⟨rfl, rfl⟩ ?_
  refine jj_aload_n 0 dd_Lo_init_9 rfl ?_
  refine jj_iload_n 2 dd_Lo_init_10 rfl ?_
  refine jj_puti dd_Lo_init_11 (Or.inr ⟨fg_Lo_15, rfl⟩) hk (fun _ => rfl) ⟨rfl, rfl⟩ ?_
  refine jj_aload_n 0 dd_Lo_init_14 rfl ?_
  refine jj_iload_n 3 dd_Lo_init_15 rfl ?_
  refine jj_puti dd_Lo_init_16 (Or.inr ⟨fg_Lo_18, rfl⟩) hk (fun _ => rfl) ⟨rfl, rfl⟩ ?_
  refine jj_aload_n 0 dd_Lo_init_19 rfl ?_
  refine jj_iload 4 dd_Lo_init_20 rfl ?_
  refine jj_puti dd_Lo_init_22 (Or.inr ⟨fg_Lo_21, rfl⟩) hk (fun _ => rfl) ⟨rfl, rfl⟩ ?_
  refine jj_aload_n 0 dd_Lo_init_25 rfl ?_
  refine jj_iload 5 dd_Lo_init_26 rfl ?_
  refine jj_puti dd_Lo_init_28 (Or.inr ⟨fg_Lo_24, rfl⟩) hk (fun _ => rfl) (mm_bl hb) ?_
  refine jj_aload_n 0 dd_Lo_init_31 rfl ?_
  refine jj_iload 6 dd_Lo_init_32 rfl ?_
  refine jj_puti dd_Lo_init_34 (Or.inr ⟨fg_Lo_28, rfl⟩) hk (fun _ => rfl) ⟨rfl, rfl⟩ ?_
  refine jj_vret dd_Lo_init_37 rfl ?_
  exact hQ
set_option maxRecDepth 20000 in
theorem ct_Lo_answer {l : Launch} {M : mm_M} {Q : Option Value → mm_M → Prop} {a : Nat} {x : Int32} (hk : mm_k M a = some (.inl 4)) (hQ : Q (some (.int (if x = 0 then mm_i M a 0 else if x = 1 then mm_i M a 1 else if x = 2 then mm_i M a 2 else if x = 3 then mm_i M a 3 else if x = 5 then mm_i M a 5 else -1))) M) : ct_ l yy_Lo_answer bb_Lo_answer 2 (some .int) 0 0 0 [.ref a, .int x] M Q := by
  refine ct_of (by decide) (Nat.le_of_ble_eq_true rfl) (fun G A => ?_)
  refine jj_iload_n 1 dd_Lo_answer_0 rfl ?_
  refine mm_sw6 (x := x) (fun h1 => ?_) (fun h1 => ?_) (fun h1 => ?_) (fun h1 => ?_) (fun h1 => ?_) (fun h1 => ?_) (fun h1 => ?_)
  · skip
    refine jj_tableOut (tgt := 65) dd_Lo_answer_1 h1 (by decide) ?_
    refine jj_iconst (v := (-1)) dd_Lo_answer_65 rfl ?_
    refine jj_iret dd_Lo_answer_66 rfl rfl ?_
    rw [if_neg (mm_out h1 (by decide) (by decide)), if_neg (mm_out h1 (by decide) (by decide)), if_neg (mm_out h1 (by decide) (by decide)), if_neg (mm_out h1 (by decide) (by decide)), if_neg (mm_out h1 (by decide) (by decide))] at hQ
    exact hQ
  · skip
    subst h1
    refine jj_tableIn (tgt := 40) dd_Lo_answer_1 (by decide) (by decide) rfl (by decide) ?_
    refine jj_aload_n 0 dd_Lo_answer_40 rfl ?_
    refine jj_geti dd_Lo_answer_41 ff_Lo_9 hk (fun _ => rfl) ?_
    refine jj_iret dd_Lo_answer_44 rfl rfl ?_
    exact hQ
  · skip
    subst h1
    refine jj_tableIn (tgt := 45) dd_Lo_answer_1 (by decide) (by decide) rfl (by decide) ?_
    refine jj_aload_n 0 dd_Lo_answer_45 rfl ?_
    refine jj_geti dd_Lo_answer_46 ff_Lo_15 hk (fun _ => rfl) ?_
    refine jj_iret dd_Lo_answer_49 rfl rfl ?_
    exact hQ
  · skip
    subst h1
    refine jj_tableIn (tgt := 50) dd_Lo_answer_1 (by decide) (by decide) rfl (by decide) ?_
    refine jj_aload_n 0 dd_Lo_answer_50 rfl ?_
    refine jj_geti dd_Lo_answer_51 ff_Lo_18 hk (fun _ => rfl) ?_
    refine jj_iret dd_Lo_answer_54 rfl rfl ?_
    exact hQ
  · skip
    subst h1
    refine jj_tableIn (tgt := 55) dd_Lo_answer_1 (by decide) (by decide) rfl (by decide) ?_
    refine jj_aload_n 0 dd_Lo_answer_55 rfl ?_
    refine jj_geti dd_Lo_answer_56 ff_Lo_21 hk (fun _ => rfl) ?_
    refine jj_iret dd_Lo_answer_59 rfl rfl ?_
    exact hQ
  · skip
    subst h1
    refine jj_tableIn (tgt := 65) dd_Lo_answer_1 (by decide) (by decide) rfl (by decide) ?_
    refine jj_iconst (v := (-1)) dd_Lo_answer_65 rfl ?_
    refine jj_iret dd_Lo_answer_66 rfl rfl ?_
    exact hQ
  · skip
    subst h1
    refine jj_tableIn (tgt := 60) dd_Lo_answer_1 (by decide) (by decide) rfl (by decide) ?_
    refine jj_aload_n 0 dd_Lo_answer_60 rfl ?_
    refine jj_geti dd_Lo_answer_61 ff_Lo_28 hk (fun _ => rfl) ?_
    refine jj_iret dd_Lo_answer_64 rfl rfl ?_
    exact hQ
set_option maxRecDepth 20000 in
theorem ct_Tr_startAt {l : Launch} {M : mm_M} {Q : Option Value → mm_M → Prop} {a : Nat} {x : Int32} (hk : mm_k M a = some (.inl 6)) (hQ : Q none (mm_si (mm_si M a 2 1) a 4 x)) : ct_ l yy_Tr_startAt bb_Tr_startAt 2 none 0 0 0 [.ref a, .int x] M Q := by
  refine ct_of (by decide) (Nat.le_of_ble_eq_true rfl) (fun G A => ?_)
  refine jj_aload_n 0 dd_Tr_startAt_0 rfl ?_
  refine jj_iconst (v := 1) dd_Tr_startAt_1 rfl ?_
  refine jj_puti dd_Tr_startAt_2 (Or.inl ⟨ff_Tr_9, rfl⟩) hk (fun _ => rfl) ⟨rfl, rfl⟩ ?_
  refine jj_aload_n 0 dd_Tr_startAt_5 rfl ?_
  refine jj_iload_n 1 dd_Tr_startAt_6 rfl ?_
  refine jj_puti dd_Tr_startAt_7 (Or.inl ⟨ff_Tr_18, rfl⟩) hk (fun _ => rfl) ⟨rfl, rfl⟩ ?_
  refine jj_vret dd_Tr_startAt_10 rfl ?_
  exact hQ
def tr_end (M : mm_M) (a : Nat) : mm_M := mm_si (mm_si (mm_si (mm_si (mm_si (mm_si (mm_si (mm_si (mm_si M a 2 0) a 3 0) a 4 0) a 5 0) a 6 0) a 7 0) a 8 0) a 9 0) a 10 0
set_option maxRecDepth 20000 in
theorem ct_Tr_end {l : Launch} {M : mm_M} {Q : Option Value → mm_M → Prop} {a : Nat} (hk : mm_k M a = some (.inl 6)) (hQ : Q none (tr_end M a)) : ct_ l yy_Tr_end bb_Tr_end 1 none 0 0 0 [.ref a] M Q := by
  refine ct_of (by decide) (Nat.le_of_ble_eq_true rfl) (fun G A => ?_)
  refine jj_aload_n 0 dd_Tr_end_0 rfl ?_
  refine jj_iconst (v := 0) dd_Tr_end_1 rfl ?_
  refine jj_puti dd_Tr_end_2 (Or.inl ⟨ff_Tr_9, rfl⟩) hk (fun _ => rfl) ⟨rfl, rfl⟩ ?_
  refine jj_aload_n 0 dd_Tr_end_5 rfl ?_
  refine jj_iconst (v := 0) dd_Tr_end_6 rfl ?_
  refine jj_puti dd_Tr_end_7 (Or.inl ⟨ff_Tr_15, rfl⟩) hk (fun _ => rfl) ⟨rfl, rfl⟩ ?_
  refine jj_aload_n 0 dd_Tr_end_10 rfl ?_
  refine jj_iconst (v := 0) dd_Tr_end_11 rfl ?_
  refine jj_puti dd_Tr_end_12 (Or.inl ⟨ff_Tr_18, rfl⟩) hk (fun _ => rfl) ⟨rfl, rfl⟩ ?_
  refine jj_aload_n 0 dd_Tr_end_15 rfl ?_
  refine jj_iconst (v := 0) dd_Tr_end_16 rfl ?_
  refine jj_puti dd_Tr_end_17 (Or.inl ⟨ff_Tr_22, rfl⟩) hk (fun _ => rfl) ⟨rfl, rfl⟩ ?_
  refine jj_aload_n 0 dd_Tr_end_20 rfl ?_
  refine jj_iconst (v := 0) dd_Tr_end_21 rfl ?_
  refine jj_puti dd_Tr_end_22 (Or.inl ⟨ff_Tr_25, rfl⟩) hk (fun _ => rfl) ⟨rfl, rfl⟩ ?_
  refine jj_aload_n 0 dd_Tr_end_25 rfl ?_
  refine jj_iconst (v := 0) dd_Tr_end_26 rfl ?_
  refine jj_puti dd_Tr_end_27 (Or.inl ⟨ff_Tr_28, rfl⟩) hk (fun _ => rfl) ⟨rfl, rfl⟩ ?_
  refine jj_aload_n 0 dd_Tr_end_30 rfl ?_
  refine jj_iconst (v := 0) dd_Tr_end_31 rfl ?_
  refine jj_puti dd_Tr_end_32 (Or.inl ⟨ff_Tr_31, rfl⟩) hk (fun _ => rfl) ⟨rfl, rfl⟩ ?_
  refine jj_aload_n 0 dd_Tr_end_35 rfl ?_
  refine jj_iconst (v := 0) dd_Tr_end_36 rfl ?_
  refine jj_puti dd_Tr_end_37 (Or.inl ⟨ff_Tr_34, rfl⟩) hk (fun _ => rfl) ⟨rfl, rfl⟩ ?_
  refine jj_aload_n 0 dd_Tr_end_40 rfl ?_
  refine jj_iconst (v := 0) dd_Tr_end_41 rfl ?_
  refine jj_puti dd_Tr_end_42 (Or.inl ⟨ff_Tr_37, rfl⟩) hk (fun _ => rfl) ⟨rfl, rfl⟩ ?_
  refine jj_vret dd_Tr_end_45 rfl ?_
  exact hQ
set_option maxRecDepth 20000 in
theorem ct_Tr_writes {l : Launch} {M : mm_M} {Q : Option Value → mm_M → Prop} {a : Nat} {x : Int32} (hk : mm_k M a = some (.inl 6)) (hQ : Q (some (.int (if (mm_i M a 6 >>> (x &&& 31)) &&& 1 = 1 then 1 else 0))) M) : ct_ l yy_Tr_writes bb_Tr_writes 2 (some .boolean) 0 0 0 [.ref a, .int x] M Q := by
  refine ct_of (by decide) (Nat.le_of_ble_eq_true rfl) (fun G A => ?_)
  refine jj_aload_n 0 dd_Tr_writes_0 rfl ?_
  refine jj_geti dd_Tr_writes_1 ff_Tr_25 hk (fun _ => rfl) ?_
  refine jj_iload_n 1 dd_Tr_writes_4 rfl ?_
  refine jj_ishr dd_Tr_writes_5 ?_
  refine jj_iconst (v := 1) dd_Tr_writes_6 rfl ?_
  refine jj_iand dd_Tr_writes_7 ?_
  refine jj_iconst (v := 1) dd_Tr_writes_8 rfl ?_
  refine jj_icmp_ne (tgt := 16) dd_Tr_writes_9 (by decide) (fun h9 => ?_) (fun h9 => ?_)
  · skip
    refine jj_iconst (v := 0) dd_Tr_writes_16 rfl ?_
    refine jj_iret dd_Tr_writes_17 rfl rfl ?_
    simpa [h9, mm_ret] using hQ
  · skip
    refine jj_iconst (v := 1) dd_Tr_writes_12 rfl ?_
    refine jj_goto (tgt := 17) dd_Tr_writes_13 (by decide) ?_
    refine jj_iret dd_Tr_writes_17 rfl rfl ?_
    simpa [h9, mm_ret] using hQ
set_option maxRecDepth 20000 in
theorem ct_Tr_erases {l : Launch} {M : mm_M} {Q : Option Value → mm_M → Prop} {a : Nat} {x : Int32} (hk : mm_k M a = some (.inl 6)) (hQ : Q (some (.int (if (mm_i M a 7 >>> (x &&& 31)) &&& 1 = 1 then 1 else 0))) M) : ct_ l yy_Tr_erases bb_Tr_erases 2 (some .boolean) 0 0 0 [.ref a, .int x] M Q := by
  refine ct_of (by decide) (Nat.le_of_ble_eq_true rfl) (fun G A => ?_)
  refine jj_aload_n 0 dd_Tr_erases_0 rfl ?_
  refine jj_geti dd_Tr_erases_1 ff_Tr_28 hk (fun _ => rfl) ?_
  refine jj_iload_n 1 dd_Tr_erases_4 rfl ?_
  refine jj_ishr dd_Tr_erases_5 ?_
  refine jj_iconst (v := 1) dd_Tr_erases_6 rfl ?_
  refine jj_iand dd_Tr_erases_7 ?_
  refine jj_iconst (v := 1) dd_Tr_erases_8 rfl ?_
  refine jj_icmp_ne (tgt := 16) dd_Tr_erases_9 (by decide) (fun h9 => ?_) (fun h9 => ?_)
  · skip
    refine jj_iconst (v := 0) dd_Tr_erases_16 rfl ?_
    refine jj_iret dd_Tr_erases_17 rfl rfl ?_
    simpa [h9, mm_ret] using hQ
  · skip
    refine jj_iconst (v := 1) dd_Tr_erases_12 rfl ?_
    refine jj_goto (tgt := 17) dd_Tr_erases_13 (by decide) ?_
    refine jj_iret dd_Tr_erases_17 rfl rfl ?_
    simpa [h9, mm_ret] using hQ
set_option maxRecDepth 20000 in
theorem ct_Tr_willPut {l : Launch} {M : mm_M} {Q : Option Value → mm_M → Prop} {a v : Nat} {x y : Int32} (hk : mm_k M a = some (.inl 6)) (hv : mm_r M a 1 = some v) (hkv : mm_k M v = some (.inr (0, 12))) (hx : vp_in x 12) (hQ : Q none (mm_si (mm_si (mm_si M a 6 (mm_i M a 6 ||| ((1 : Int32) <<< (x &&& 31)))) a 7 (mm_i M a 7 &&& (((1 : Int32) <<< (x &&& 31)) ^^^ (-1)))) v x.toNatClampNeg y)) : ct_ l yy_Tr_willPut bb_Tr_willPut 3 none 0 0 0 [.ref a, .int x, .int y] M Q := by
  refine ct_of (by decide) (Nat.le_of_ble_eq_true rfl) (fun G A => ?_)
  refine jj_aload_n 0 dd_Tr_willPut_0 rfl ?_
  refine jj_dup dd_Tr_willPut_1 rfl ?_
  refine jj_geti dd_Tr_willPut_2 ff_Tr_25 hk (fun _ => rfl) ?_
  refine jj_iconst (v := 1) dd_Tr_willPut_5 rfl ?_
  refine jj_iload_n 1 dd_Tr_willPut_6 rfl ?_
  refine jj_ishl dd_Tr_willPut_7 ?_
  refine jj_ior dd_Tr_willPut_8 ?_
  refine jj_puti dd_Tr_willPut_9 (Or.inl ⟨ff_Tr_25, rfl⟩) hk (fun _ => rfl) ⟨rfl, rfl⟩ ?_
  refine jj_aload_n 0 dd_Tr_willPut_12 rfl ?_
  refine jj_dup dd_Tr_willPut_13 rfl ?_
  refine jj_geti dd_Tr_willPut_14 ff_Tr_28 hk (fun _ => rfl) ?_
  refine jj_iconst (v := 1) dd_Tr_willPut_17 rfl ?_
  refine jj_iload_n 1 dd_Tr_willPut_18 rfl ?_
  refine jj_ishl dd_Tr_willPut_19 ?_
  refine jj_iconst (v := (-1)) dd_Tr_willPut_20 rfl ?_
  refine jj_ixor dd_Tr_willPut_21 ?_
  refine jj_iand dd_Tr_willPut_22 ?_
  refine jj_puti dd_Tr_willPut_23 (Or.inl ⟨ff_Tr_28, rfl⟩) hk (fun _ => rfl) ⟨rfl, rfl⟩ ?_
  refine jj_aload_n 0 dd_Tr_willPut_26 rfl ?_
  refine jj_getr dd_Tr_willPut_27 ff_Tr_43 hk (fun _ => rfl) (some v) hv ?_
  refine jj_iload_n 1 dd_Tr_willPut_30 rfl ?_
  refine jj_iload_n 2 dd_Tr_willPut_31 rfl ?_
  refine jj_iast dd_Tr_willPut_32 hkv hx ?_
  refine jj_vret dd_Tr_willPut_33 rfl ?_
  simpa [mm_ret, mm_k_si, mm_k_sr, mm_i_si, mm_i_sr, mm_r_si, mm_r_sr, mm_si_self] using hQ
set_option maxRecDepth 20000 in
theorem ct_Tr_willErase {l : Launch} {M : mm_M} {Q : Option Value → mm_M → Prop} {a v : Nat} {x : Int32} (hk : mm_k M a = some (.inl 6)) (hv : mm_r M a 1 = some v) (hkv : mm_k M v = some (.inr (0, 12))) (hx : vp_in x 12) (hQ : Q none (mm_si (mm_si (mm_si M a 6 (mm_i M a 6 ||| ((1 : Int32) <<< (x &&& 31)))) a 7 (mm_i M a 7 ||| ((1 : Int32) <<< (x &&& 31)))) v x.toNatClampNeg 0)) : ct_ l yy_Tr_willErase bb_Tr_willErase 2 none 0 0 0 [.ref a, .int x] M Q := by
  refine ct_of (by decide) (Nat.le_of_ble_eq_true rfl) (fun G A => ?_)
  refine jj_aload_n 0 dd_Tr_willErase_0 rfl ?_
  refine jj_dup dd_Tr_willErase_1 rfl ?_
  refine jj_geti dd_Tr_willErase_2 ff_Tr_25 hk (fun _ => rfl) ?_
  refine jj_iconst (v := 1) dd_Tr_willErase_5 rfl ?_
  refine jj_iload_n 1 dd_Tr_willErase_6 rfl ?_
  refine jj_ishl dd_Tr_willErase_7 ?_
  refine jj_ior dd_Tr_willErase_8 ?_
  refine jj_puti dd_Tr_willErase_9 (Or.inl ⟨ff_Tr_25, rfl⟩) hk (fun _ => rfl) ⟨rfl, rfl⟩ ?_
  refine jj_aload_n 0 dd_Tr_willErase_12 rfl ?_
  refine jj_dup dd_Tr_willErase_13 rfl ?_
  refine jj_geti dd_Tr_willErase_14 ff_Tr_28 hk (fun _ => rfl) ?_
  refine jj_iconst (v := 1) dd_Tr_willErase_17 rfl ?_
  refine jj_iload_n 1 dd_Tr_willErase_18 rfl ?_
  refine jj_ishl dd_Tr_willErase_19 ?_
  refine jj_ior dd_Tr_willErase_20 ?_
  refine jj_puti dd_Tr_willErase_21 (Or.inl ⟨ff_Tr_28, rfl⟩) hk (fun _ => rfl) ⟨rfl, rfl⟩ ?_
  refine jj_aload_n 0 dd_Tr_willErase_24 rfl ?_
  refine jj_getr dd_Tr_willErase_25 ff_Tr_43 hk (fun _ => rfl) (some v) hv ?_
  refine jj_iload_n 1 dd_Tr_willErase_28 rfl ?_
  refine jj_iconst (v := 0) dd_Tr_willErase_29 rfl ?_
  refine jj_iast dd_Tr_willErase_30 hkv hx ?_
  refine jj_vret dd_Tr_willErase_31 rfl ?_
  simpa [mm_ret, mm_k_si, mm_k_sr, mm_i_si, mm_i_sr, mm_r_si, mm_r_sr, mm_si_self] using hQ
set_option maxRecDepth 20000 in
theorem ct_TC_asNumber {l : Launch} {M : mm_M} {Q : Option Value → mm_M → Prop} {x : Int32} (hQ : Q (some (.int (if x = 0 then 0 else 1))) M) : ct_ l yy_TC_asNumber bb_TC_asNumber 1 (some .int) 0 0 0 [.int x] M Q := by
  refine ct_of (by decide) (Nat.le_of_ble_eq_true rfl) (fun G A => ?_)
  refine jj_iload_n 0 dd_TC_asNumber_0 rfl ?_
  refine jj_if_eq (tgt := 8) dd_TC_asNumber_1 (by decide) (fun h1 => ?_) (fun h1 => ?_)
  · skip
    refine jj_iconst (v := 0) dd_TC_asNumber_8 rfl ?_
    refine jj_iret dd_TC_asNumber_9 rfl rfl ?_
    simpa [h1, mm_ret] using hQ
  · skip
    refine jj_iconst (v := 1) dd_TC_asNumber_4 rfl ?_
    refine jj_goto (tgt := 9) dd_TC_asNumber_5 (by decide) ?_
    refine jj_iret dd_TC_asNumber_9 rfl rfl ?_
    simpa [h1, mm_ret] using hQ
set_option maxRecDepth 20000 in
theorem ct_TC_isClient {l : Launch} {M : mm_M} {Q : Option Value → mm_M → Prop} {x : Int32} (hQ0 : ¬ vp_in x 4 → Q (some (.int 0)) M) (hQ : vp_in x 4 → Q (some (.int 1)) M) : ct_ l yy_TC_isClient bb_TC_isClient 1 (some .boolean) 0 0 0 [.int x] M Q := by
  refine ct_of (by decide) (Nat.le_of_ble_eq_true rfl) (fun G A => ?_)
  refine jj_iload_n 0 dd_TC_isClient_0 rfl ?_
  refine jj_if_lt (tgt := 13) dd_TC_isClient_1 (by decide) (fun h1 => ?_) (fun h1 => ?_)
  · skip
    refine jj_iconst (v := 0) dd_TC_isClient_13 rfl ?_
    refine jj_iret dd_TC_isClient_14 rfl rfl ?_
    exact hQ0 (mm_vlt h1)
  · skip
    refine jj_iload_n 0 dd_TC_isClient_4 rfl ?_
    refine jj_iconst (v := 4) dd_TC_isClient_5 rfl ?_
    refine jj_icmp_ge (tgt := 13) dd_TC_isClient_6 (by decide) (fun h6 => ?_) (fun h6 => ?_)
    · skip
      refine jj_iconst (v := 0) dd_TC_isClient_13 rfl ?_
      refine jj_iret dd_TC_isClient_14 rfl rfl ?_
      exact hQ0 (mm_vge (n := 4) h6 (by decide))
    · skip
      refine jj_iconst (v := 1) dd_TC_isClient_9 rfl ?_
      refine jj_goto (tgt := 14) dd_TC_isClient_10 (by decide) ?_
      refine jj_iret dd_TC_isClient_14 rfl rfl ?_
      exact hQ (mm_vin (n := 4) h1 h6 (by decide))
set_option maxRecDepth 20000 in
theorem ct_TC_isCell {l : Launch} {M : mm_M} {Q : Option Value → mm_M → Prop} {x : Int32} (hQ0 : ¬ vp_in x 12 → Q (some (.int 0)) M) (hQ : vp_in x 12 → Q (some (.int 1)) M) : ct_ l yy_TC_isCell bb_TC_isCell 1 (some .boolean) 0 0 0 [.int x] M Q := by
  refine ct_of (by decide) (Nat.le_of_ble_eq_true rfl) (fun G A => ?_)
  refine jj_iload_n 0 dd_TC_isCell_0 rfl ?_
  refine jj_if_lt (tgt := 14) dd_TC_isCell_1 (by decide) (fun h1 => ?_) (fun h1 => ?_)
  · skip
    refine jj_iconst (v := 0) dd_TC_isCell_14 rfl ?_
    refine jj_iret dd_TC_isCell_15 rfl rfl ?_
    exact hQ0 (mm_vlt h1)
  · skip
    refine jj_iload_n 0 dd_TC_isCell_4 rfl ?_
    refine jj_bipush (v := 12) dd_TC_isCell_5 rfl ?_
    refine jj_icmp_ge (tgt := 14) dd_TC_isCell_7 (by decide) (fun h7 => ?_) (fun h7 => ?_)
    · skip
      refine jj_iconst (v := 0) dd_TC_isCell_14 rfl ?_
      refine jj_iret dd_TC_isCell_15 rfl rfl ?_
      exact hQ0 (mm_vge (n := 12) h7 (by decide))
    · skip
      refine jj_iconst (v := 1) dd_TC_isCell_10 rfl ?_
      refine jj_goto (tgt := 15) dd_TC_isCell_11 (by decide) ?_
      refine jj_iret dd_TC_isCell_15 rfl rfl ?_
      exact hQ (mm_vin (n := 12) h1 h7 (by decide))
set_option maxRecDepth 20000 in
theorem ct_TC_isTablet {l : Launch} {M : mm_M} {Q : Option Value → mm_M → Prop} {x : Int32} (hQ0 : ¬ vp_in x 3 → Q (some (.int 0)) M) (hQ : vp_in x 3 → Q (some (.int 1)) M) : ct_ l yy_TC_isTablet bb_TC_isTablet 1 (some .boolean) 0 0 0 [.int x] M Q := by
  refine ct_of (by decide) (Nat.le_of_ble_eq_true rfl) (fun G A => ?_)
  refine jj_iload_n 0 dd_TC_isTablet_0 rfl ?_
  refine jj_if_lt (tgt := 13) dd_TC_isTablet_1 (by decide) (fun h1 => ?_) (fun h1 => ?_)
  · skip
    refine jj_iconst (v := 0) dd_TC_isTablet_13 rfl ?_
    refine jj_iret dd_TC_isTablet_14 rfl rfl ?_
    exact hQ0 (mm_vlt h1)
  · skip
    refine jj_iload_n 0 dd_TC_isTablet_4 rfl ?_
    refine jj_iconst (v := 3) dd_TC_isTablet_5 rfl ?_
    refine jj_icmp_ge (tgt := 13) dd_TC_isTablet_6 (by decide) (fun h6 => ?_) (fun h6 => ?_)
    · skip
      refine jj_iconst (v := 0) dd_TC_isTablet_13 rfl ?_
      refine jj_iret dd_TC_isTablet_14 rfl rfl ?_
      exact hQ0 (mm_vge (n := 3) h6 (by decide))
    · skip
      refine jj_iconst (v := 1) dd_TC_isTablet_9 rfl ?_
      refine jj_goto (tgt := 14) dd_TC_isTablet_10 (by decide) ?_
      refine jj_iret dd_TC_isTablet_14 rfl rfl ?_
      exact hQ (mm_vin (n := 3) h1 h6 (by decide))
set_option maxRecDepth 20000 in
theorem ct_TC_leastOf {l : Launch} {M : mm_M} {Q : Option Value → mm_M → Prop} {x : Int32} (hQ : ∀ c : Nat, c ≤ 11 → (∀ j, j < c → (x >>> (nI j &&& 31)) &&& 1 = 0) → (c < 11 → ¬ (x >>> (nI c &&& 31)) &&& 1 = 0) → Q (some (.int (nI c))) M) : ct_ l yy_TC_leastOf bb_TC_leastOf 2 (some .int) 0 0 0 [.int x] M Q := by
  refine ct_of (by decide) (Nat.le_of_ble_eq_true rfl) (fun G A => ?_)
  have loop : ∀ n c : Nat, c + n = 11 → (∀ j, j < c → (x >>> (nI j &&& 31)) &&& 1 = 0) → jj_ l yy_TC_leastOf bb_TC_leastOf 2 (some .int) G (mm_R 0 0 0) A (mm_ret Q) 0 0 2 [(1, .int (nI c)), (0, .int x)] [] M := by
    intro n
    induction n with
    | zero =>
      intro c hc hb
      have hc : c = 11 := by omega
      subst hc
      refine jj_iload_n 0 dd_TC_leastOf_2 rfl ?_
      refine jj_bipush (v := 11) dd_TC_leastOf_3 rfl ?_
      refine jj_icmp_ge (tgt := 22) dd_TC_leastOf_5 (by decide) (fun h5 => ?_) (fun h5 => ?_)
      · skip
        refine jj_iload_n 0 dd_TC_leastOf_22 rfl ?_
        refine jj_iret dd_TC_leastOf_23 rfl rfl ?_
        exact hQ 11 (by omega) hb (fun h => absurd h (by omega))
      · exact absurd (by decide) h5
    | succ n ih =>
      intro c hc hb
      refine jj_iload_n 0 dd_TC_leastOf_2 rfl ?_
      refine jj_bipush (v := 11) dd_TC_leastOf_3 rfl ?_
      refine jj_icmp_ge (tgt := 22) dd_TC_leastOf_5 (by decide) (fun h5 => ?_) (fun h5 => ?_)
      · exact absurd h5 (nI_ge (b := 11) (by omega) (by decide))
      · skip
        refine jj_iload_n 1 dd_TC_leastOf_8 rfl ?_
        refine jj_iload_n 0 dd_TC_leastOf_9 rfl ?_
        refine jj_ishr dd_TC_leastOf_10 ?_
        refine jj_iconst (v := 1) dd_TC_leastOf_11 rfl ?_
        refine jj_iand dd_TC_leastOf_12 ?_
        refine jj_if_ne (tgt := 22) dd_TC_leastOf_13 (by decide) (fun h13 => ?_) (fun h13 => ?_)
        · skip
          refine jj_iload_n 0 dd_TC_leastOf_22 rfl ?_
          refine jj_iret dd_TC_leastOf_23 rfl rfl ?_
          exact hQ c (by omega) hb (fun _ => h13)
        · skip
          refine jj_iinc 0 (lv' := [(1, .int (nI (c + 1))), (0, .int _)]) dd_TC_leastOf_16 rfl (nI_1 c) (Nat.le_of_ble_eq_true rfl) rfl ?_
          refine jj_goto (tgt := 2) dd_TC_leastOf_19 (by decide) ?_
          exact ih (c + 1) (by omega) (lt_s hb h13)
  refine jj_iconst (v := 0) dd_TC_leastOf_0 rfl ?_
  refine jj_istore_n (lv' := [(1, .int (0)), (0, .int _)]) dd_TC_leastOf_1 (Nat.le_of_ble_eq_true rfl) rfl ?_
  exact loop 11 0 rfl (fun j h => absurd h (Nat.not_lt_zero _))
set_option maxRecDepth 20000 in
theorem ct_Tr_primary {l : Launch} {M : mm_M} {Q : Option Value → mm_M → Prop} {a : Nat} (hk : mm_k M a = some (.inl 6)) (hQ : ∀ c : Nat, c ≤ 11 → (∀ j, j < c → (mm_i M a 6 >>> (nI j &&& 31)) &&& 1 = 0) → (c < 11 → ¬ (mm_i M a 6 >>> (nI c &&& 31)) &&& 1 = 0) → Q (some (.int (nI c))) M) : ct_ l yy_Tr_primary bb_Tr_primary 1 (some .int) 1 0 0 [.ref a] M Q := by
  refine ct_of (by decide) (Nat.le_of_ble_eq_true rfl) (fun G A => ?_)
  refine jj_aload_n 0 dd_Tr_primary_0 rfl ?_
  refine jj_geti dd_Tr_primary_1 ff_Tr_25 hk (fun _ => rfl) ?_
  refine jj_callS [_] [] 0 0 dd_Tr_primary_4 cs_Tr_58 ci_Tr_58 rfl (Nat.le_of_ble_eq_true rfl) ⟨(Nat.le_of_ble_eq_true rfl), (Nat.le_of_ble_eq_true rfl)⟩ ⟨(Nat.le_of_ble_eq_true rfl), (Nat.le_of_ble_eq_true rfl)⟩ rfl (ct_TC_leastOf (fun c hc1 hc2 hc3 => ?_))
  refine jj_iret dd_Tr_primary_7 rfl rfl ?_
  exact hQ c hc1 hc2 hc3
set_option maxRecDepth 20000 in
theorem ct_Tr_endIfAllFollowed {l : Launch} {M : mm_M} {Q : Option Value → mm_M → Prop} {a : Nat} (hk : mm_k M a = some (.inl 6)) (hQ0 : ¬ mm_i M a 9 = mm_i M a 6 → Q (some (.int 0)) M) (hQ : mm_i M a 9 = mm_i M a 6 → Q (some (.int 1)) (tr_end M a)) : ct_ l yy_Tr_endIfAllFollowed bb_Tr_endIfAllFollowed 1 (some .boolean) 1 0 0 [.ref a] M Q := by
  refine ct_of (by decide) (Nat.le_of_ble_eq_true rfl) (fun G A => ?_)
  refine jj_aload_n 0 dd_Tr_endIfAllFollowed_0 rfl ?_
  refine jj_geti dd_Tr_endIfAllFollowed_1 ff_Tr_34 hk (fun _ => rfl) ?_
  refine jj_aload_n 0 dd_Tr_endIfAllFollowed_4 rfl ?_
  refine jj_geti dd_Tr_endIfAllFollowed_5 ff_Tr_25 hk (fun _ => rfl) ?_
  refine jj_icmp_eq (tgt := 13) dd_Tr_endIfAllFollowed_8 (by decide) (fun h8 => ?_) (fun h8 => ?_)
  · skip
    refine jj_aload_n 0 dd_Tr_endIfAllFollowed_13 rfl ?_
    refine jj_callV (ci := 6) [] [] 0 0 dd_Tr_endIfAllFollowed_14 cs_Tr_71 ci_Tr_71 hk ⟨by decide, rfl⟩ rfl (Nat.le_of_ble_eq_true rfl) ⟨(Nat.le_of_ble_eq_true rfl), (Nat.le_of_ble_eq_true rfl)⟩ ⟨(Nat.le_of_ble_eq_true rfl), (Nat.le_of_ble_eq_true rfl)⟩ rfl (ct_Tr_end hk ?_)
    refine jj_iconst (v := 1) dd_Tr_endIfAllFollowed_17 rfl ?_
    refine jj_iret dd_Tr_endIfAllFollowed_18 rfl rfl ?_
    exact hQ h8
  · skip
    refine jj_iconst (v := 0) dd_Tr_endIfAllFollowed_11 rfl ?_
    refine jj_iret dd_Tr_endIfAllFollowed_12 rfl rfl ?_
    exact hQ0 h8
set_option maxRecDepth 20000 in
theorem ct_Tr_answer {l : Launch} {M : mm_M} {Q : Option Value → mm_M → Prop} {a : Nat} {x : Int32} (hk : mm_k M a = some (.inl 6)) (hQ : Q (some (.int (if x = 0 then (if mm_i M a 2 = 0 then (0 : Int32) else 1) + (if mm_i M a 3 = 0 then (0 : Int32) else 1) else if x = 1 then mm_i M a 4 else if x = 2 then mm_i M a 5 else if x = 3 then mm_i M a 6 else if x = 4 then mm_i M a 8 else if x = 5 then (if mm_i M a 10 = 0 then (0 : Int32) else 1) else -1))) M) : ct_ l yy_Tr_answer bb_Tr_answer 2 (some .int) 1 0 0 [.ref a, .int x] M Q := by
  refine ct_of (by decide) (Nat.le_of_ble_eq_true rfl) (fun G A => ?_)
  refine jj_iload_n 1 dd_Tr_answer_0 rfl ?_
  refine mm_sw6 (x := x) (fun h1 => ?_) (fun h1 => ?_) (fun h1 => ?_) (fun h1 => ?_) (fun h1 => ?_) (fun h1 => ?_) (fun h1 => ?_)
  · skip
    refine jj_tableOut (tgt := 84) dd_Tr_answer_1 h1 (by decide) ?_
    refine jj_iconst (v := (-1)) dd_Tr_answer_84 rfl ?_
    refine jj_iret dd_Tr_answer_85 rfl rfl ?_
    rw [if_neg (mm_out h1 (by decide) (by decide)), if_neg (mm_out h1 (by decide) (by decide)), if_neg (mm_out h1 (by decide) (by decide)), if_neg (mm_out h1 (by decide) (by decide)), if_neg (mm_out h1 (by decide) (by decide)), if_neg (mm_out h1 (by decide) (by decide))] at hQ
    exact hQ
  · skip
    subst h1
    refine jj_tableIn (tgt := 40) dd_Tr_answer_1 (by decide) (by decide) rfl (by decide) ?_
    refine jj_aload_n 0 dd_Tr_answer_40 rfl ?_
    refine jj_geti dd_Tr_answer_41 ff_Tr_9 hk (fun _ => rfl) ?_
    refine jj_callS [_] [] 0 0 dd_Tr_answer_44 cs_Tr_74 ci_Tr_74 rfl (Nat.le_of_ble_eq_true rfl) ⟨(Nat.le_of_ble_eq_true rfl), (Nat.le_of_ble_eq_true rfl)⟩ ⟨(Nat.le_of_ble_eq_true rfl), (Nat.le_of_ble_eq_true rfl)⟩ rfl (ct_TC_asNumber ?_)
    refine jj_aload_n 0 dd_Tr_answer_47 rfl ?_
    refine jj_geti dd_Tr_answer_48 ff_Tr_15 hk (fun _ => rfl) ?_
    refine jj_callS [_] [_] 0 0 dd_Tr_answer_51 cs_Tr_74 ci_Tr_74 rfl (Nat.le_of_ble_eq_true rfl) ⟨(Nat.le_of_ble_eq_true rfl), (Nat.le_of_ble_eq_true rfl)⟩ ⟨(Nat.le_of_ble_eq_true rfl), (Nat.le_of_ble_eq_true rfl)⟩ rfl (ct_TC_asNumber ?_)
    refine jj_iadd dd_Tr_answer_54 ?_
    refine jj_iret dd_Tr_answer_55 rfl rfl ?_
    exact hQ
  · skip
    subst h1
    refine jj_tableIn (tgt := 56) dd_Tr_answer_1 (by decide) (by decide) rfl (by decide) ?_
    refine jj_aload_n 0 dd_Tr_answer_56 rfl ?_
    refine jj_geti dd_Tr_answer_57 ff_Tr_18 hk (fun _ => rfl) ?_
    refine jj_iret dd_Tr_answer_60 rfl rfl ?_
    exact hQ
  · skip
    subst h1
    refine jj_tableIn (tgt := 61) dd_Tr_answer_1 (by decide) (by decide) rfl (by decide) ?_
    refine jj_aload_n 0 dd_Tr_answer_61 rfl ?_
    refine jj_geti dd_Tr_answer_62 ff_Tr_22 hk (fun _ => rfl) ?_
    refine jj_iret dd_Tr_answer_65 rfl rfl ?_
    exact hQ
  · skip
    subst h1
    refine jj_tableIn (tgt := 66) dd_Tr_answer_1 (by decide) (by decide) rfl (by decide) ?_
    refine jj_aload_n 0 dd_Tr_answer_66 rfl ?_
    refine jj_geti dd_Tr_answer_67 ff_Tr_25 hk (fun _ => rfl) ?_
    refine jj_iret dd_Tr_answer_70 rfl rfl ?_
    exact hQ
  · skip
    subst h1
    refine jj_tableIn (tgt := 71) dd_Tr_answer_1 (by decide) (by decide) rfl (by decide) ?_
    refine jj_aload_n 0 dd_Tr_answer_71 rfl ?_
    refine jj_geti dd_Tr_answer_72 ff_Tr_31 hk (fun _ => rfl) ?_
    refine jj_iret dd_Tr_answer_75 rfl rfl ?_
    exact hQ
  · skip
    subst h1
    refine jj_tableIn (tgt := 76) dd_Tr_answer_1 (by decide) (by decide) rfl (by decide) ?_
    refine jj_aload_n 0 dd_Tr_answer_76 rfl ?_
    refine jj_geti dd_Tr_answer_77 ff_Tr_37 hk (fun _ => rfl) ?_
    refine jj_callS [_] [] 0 0 dd_Tr_answer_80 cs_Tr_74 ci_Tr_74 rfl (Nat.le_of_ble_eq_true rfl) ⟨(Nat.le_of_ble_eq_true rfl), (Nat.le_of_ble_eq_true rfl)⟩ ⟨(Nat.le_of_ble_eq_true rfl), (Nat.le_of_ble_eq_true rfl)⟩ rfl (ct_TC_asNumber ?_)
    refine jj_iret dd_Tr_answer_83 rfl rfl ?_
    exact hQ
theorem mm_si_same {M : mm_M} {a k : Nat} {x : Int32} (h : mm_i M a k = x) : mm_si M a k x = M := by
  rw [← h]
  exact mm_si_self M a k
def pl_L (M : mm_M) (a : Nat) : Int32 := if mm_i M a 2 < 8 then mm_i M a 2 else 0
def pl_M (M : mm_M) (a : Nat) : mm_M := mm_si (mm_si (mm_si (mm_si (mm_si M a 3 (mm_i M a 3 + 1)) a 2 (pl_L M a)) a 4 (if mm_i M a 4 ≤ 0 then mm_i M a 4 else mm_i M a 4 - 1)) a 0 (if mm_i M a 4 = 1 then 0 else mm_i M a 0)) a 2 (if mm_i M a 4 = 1 ∧ mm_i M a 5 = 0 then pl_L M a else pl_L M a + 1)
def pl_r (M : mm_M) (a : Nat) : Int32 := if mm_i M a 4 = 1 ∧ mm_i M a 5 = 0 then 0 else 1
set_option maxRecDepth 20000 in
theorem ct_Ta_putsIntoLog {l : Launch} {M : mm_M} {Q : Option Value → mm_M → Prop} {a : Nat} (hk : mm_k M a = some (.inl 2)) (hQ : Q (some (.int (pl_r M a))) (pl_M M a)) : ct_ l yy_Ta_putsIntoLog bb_Ta_putsIntoLog 3 (some .boolean) 0 0 0 [.ref a] M Q := by
  refine ct_of (by decide) (Nat.le_of_ble_eq_true rfl) (fun G A => ?_)
  refine jj_aload_n 0 dd_Ta_putsIntoLog_0 rfl ?_
  refine jj_dup dd_Ta_putsIntoLog_1 rfl ?_
  refine jj_geti dd_Ta_putsIntoLog_2 ff_Ta_22 hk (fun _ => rfl) ?_
  refine jj_iconst (v := 1) dd_Ta_putsIntoLog_5 rfl ?_
  refine jj_iadd dd_Ta_putsIntoLog_6 ?_
  refine jj_puti dd_Ta_putsIntoLog_7 (Or.inl ⟨ff_Ta_22, rfl⟩) hk (fun _ => rfl) ⟨rfl, rfl⟩ ?_
  refine jj_aload_n 0 dd_Ta_putsIntoLog_10 rfl ?_
  refine jj_geti dd_Ta_putsIntoLog_11 ff_Ta_19 hk (fun _ => rfl) ?_
  refine jj_bipush (v := 8) dd_Ta_putsIntoLog_14 rfl ?_
  refine jj_icmp_lt (tgt := 24) dd_Ta_putsIntoLog_16 (by decide) (fun h16 => ?_) (fun h16 => ?_)
  · skip
    refine jj_aload_n 0 dd_Ta_putsIntoLog_24 rfl ?_
    refine jj_geti dd_Ta_putsIntoLog_25 ff_Ta_25 hk (fun _ => rfl) ?_
    refine jj_iconst (v := 1) dd_Ta_putsIntoLog_28 rfl ?_
    refine jj_icmp_ne (tgt := 36) dd_Ta_putsIntoLog_29 (by decide) (fun h29 => ?_) (fun h29 => ?_)
    · skip
      refine jj_iconst (v := 0) dd_Ta_putsIntoLog_36 rfl ?_
      refine jj_istore_n (lv' := [(1, .int (0)), (0, .ref a)]) dd_Ta_putsIntoLog_37 (Nat.le_of_ble_eq_true rfl) rfl ?_
      refine jj_aload_n 1 dd_Ta_putsIntoLog_38 rfl ?_
      refine jj_geti dd_Ta_putsIntoLog_39 ff_Ta_25 hk (fun _ => rfl) ?_
      refine jj_if_le (tgt := 55) dd_Ta_putsIntoLog_42 (by decide) (fun h42 => ?_) (fun h42 => ?_)
      · skip
        refine jj_iload_n 0 dd_Ta_putsIntoLog_55 rfl ?_
        refine jj_if_eq (tgt := 64) dd_Ta_putsIntoLog_56 (by decide) (fun _ => ?_) (fun h => absurd h (by decide))
        refine jj_iload_n 0 dd_Ta_putsIntoLog_64 rfl ?_
        refine jj_if_eq (tgt := 75) dd_Ta_putsIntoLog_65 (by decide) (fun _ => ?_) (fun h => absurd h (by decide))
        refine jj_iconst (v := 1) dd_Ta_putsIntoLog_75 rfl ?_
        refine jj_goto (tgt := 80) dd_Ta_putsIntoLog_76 (by decide) ?_
        refine jj_istore_n (lv' := [(2, .int (1)), (1, .int (0)), (0, .ref a)]) dd_Ta_putsIntoLog_80 (Nat.le_of_ble_eq_true rfl) rfl ?_
        refine jj_iload_n 0 dd_Ta_putsIntoLog_81 rfl ?_
        refine jj_if_eq (tgt := 95) dd_Ta_putsIntoLog_82 (by decide) (fun h => absurd h (by decide)) (fun _ => ?_)
        refine jj_aload_n 2 dd_Ta_putsIntoLog_85 rfl ?_
        refine jj_dup dd_Ta_putsIntoLog_86 rfl ?_
        refine jj_geti dd_Ta_putsIntoLog_87 ff_Ta_19 hk (fun _ => rfl) ?_
        refine jj_iconst (v := 1) dd_Ta_putsIntoLog_90 rfl ?_
        refine jj_iadd dd_Ta_putsIntoLog_91 ?_
        refine jj_puti dd_Ta_putsIntoLog_92 (Or.inl ⟨ff_Ta_19, rfl⟩) hk (fun _ => rfl) ⟨rfl, rfl⟩ ?_
        refine jj_iload_n 0 dd_Ta_putsIntoLog_95 rfl ?_
        refine jj_iret dd_Ta_putsIntoLog_96 rfl rfl ?_
        simp [mm_i_si, -Int32.not_lt, -Int32.not_le] at h16 h29 h42
        first | (simpa [pl_M, pl_r, pl_L, mm_ret, mm_i_si, mm_si_same, -Int32.not_lt, -Int32.not_le, h16, h29, h42] using hQ) | (exfalso; rw [h29] at h42; exact absurd h42 (by decide))
      · skip
        refine jj_aload_n 1 dd_Ta_putsIntoLog_45 rfl ?_
        refine jj_dup dd_Ta_putsIntoLog_46 rfl ?_
        refine jj_geti dd_Ta_putsIntoLog_47 ff_Ta_25 hk (fun _ => rfl) ?_
        refine jj_iconst (v := 1) dd_Ta_putsIntoLog_50 rfl ?_
        refine jj_isub dd_Ta_putsIntoLog_51 ?_
        refine jj_puti dd_Ta_putsIntoLog_52 (Or.inl ⟨ff_Ta_25, rfl⟩) hk (fun _ => rfl) ⟨rfl, rfl⟩ ?_
        refine jj_iload_n 0 dd_Ta_putsIntoLog_55 rfl ?_
        refine jj_if_eq (tgt := 64) dd_Ta_putsIntoLog_56 (by decide) (fun _ => ?_) (fun h => absurd h (by decide))
        refine jj_iload_n 0 dd_Ta_putsIntoLog_64 rfl ?_
        refine jj_if_eq (tgt := 75) dd_Ta_putsIntoLog_65 (by decide) (fun _ => ?_) (fun h => absurd h (by decide))
        refine jj_iconst (v := 1) dd_Ta_putsIntoLog_75 rfl ?_
        refine jj_goto (tgt := 80) dd_Ta_putsIntoLog_76 (by decide) ?_
        refine jj_istore_n (lv' := [(2, .int (1)), (1, .int (0)), (0, .ref a)]) dd_Ta_putsIntoLog_80 (Nat.le_of_ble_eq_true rfl) rfl ?_
        refine jj_iload_n 0 dd_Ta_putsIntoLog_81 rfl ?_
        refine jj_if_eq (tgt := 95) dd_Ta_putsIntoLog_82 (by decide) (fun h => absurd h (by decide)) (fun _ => ?_)
        refine jj_aload_n 2 dd_Ta_putsIntoLog_85 rfl ?_
        refine jj_dup dd_Ta_putsIntoLog_86 rfl ?_
        refine jj_geti dd_Ta_putsIntoLog_87 ff_Ta_19 hk (fun _ => rfl) ?_
        refine jj_iconst (v := 1) dd_Ta_putsIntoLog_90 rfl ?_
        refine jj_iadd dd_Ta_putsIntoLog_91 ?_
        refine jj_puti dd_Ta_putsIntoLog_92 (Or.inl ⟨ff_Ta_19, rfl⟩) hk (fun _ => rfl) ⟨rfl, rfl⟩ ?_
        refine jj_iload_n 0 dd_Ta_putsIntoLog_95 rfl ?_
        refine jj_iret dd_Ta_putsIntoLog_96 rfl rfl ?_
        simp [mm_i_si, -Int32.not_lt, -Int32.not_le] at h16 h29 h42
        first | (simpa [pl_M, pl_r, pl_L, mm_ret, mm_i_si, mm_si_same, -Int32.not_lt, -Int32.not_le, h16, h29, h42] using hQ) | (exfalso; rw [h29] at h42; exact absurd h42 (by decide))
    · skip
      refine jj_iconst (v := 1) dd_Ta_putsIntoLog_32 rfl ?_
      refine jj_goto (tgt := 37) dd_Ta_putsIntoLog_33 (by decide) ?_
      refine jj_istore_n (lv' := [(1, .int (1)), (0, .ref a)]) dd_Ta_putsIntoLog_37 (Nat.le_of_ble_eq_true rfl) rfl ?_
      refine jj_aload_n 1 dd_Ta_putsIntoLog_38 rfl ?_
      refine jj_geti dd_Ta_putsIntoLog_39 ff_Ta_25 hk (fun _ => rfl) ?_
      refine jj_if_le (tgt := 55) dd_Ta_putsIntoLog_42 (by decide) (fun h42 => ?_) (fun h42 => ?_)
      · skip
        refine jj_iload_n 0 dd_Ta_putsIntoLog_55 rfl ?_
        refine jj_if_eq (tgt := 64) dd_Ta_putsIntoLog_56 (by decide) (fun h => absurd h (by decide)) (fun _ => ?_)
        refine jj_aload_n 1 dd_Ta_putsIntoLog_59 rfl ?_
        refine jj_iconst (v := 0) dd_Ta_putsIntoLog_60 rfl ?_
        refine jj_puti dd_Ta_putsIntoLog_61 (Or.inl ⟨ff_Ta_9, rfl⟩) hk (fun _ => rfl) ⟨rfl, rfl⟩ ?_
        refine jj_iload_n 0 dd_Ta_putsIntoLog_64 rfl ?_
        refine jj_if_eq (tgt := 75) dd_Ta_putsIntoLog_65 (by decide) (fun h => absurd h (by decide)) (fun _ => ?_)
        refine jj_aload_n 1 dd_Ta_putsIntoLog_68 rfl ?_
        refine jj_geti dd_Ta_putsIntoLog_69 ff_Ta_28 hk (fun _ => rfl) ?_
        refine jj_if_eq (tgt := 79) dd_Ta_putsIntoLog_72 (by decide) (fun h72 => ?_) (fun h72 => ?_)
        · skip
          refine jj_iconst (v := 0) dd_Ta_putsIntoLog_79 rfl ?_
          refine jj_istore_n (lv' := [(2, .int (0)), (1, .int (1)), (0, .ref a)]) dd_Ta_putsIntoLog_80 (Nat.le_of_ble_eq_true rfl) rfl ?_
          refine jj_iload_n 0 dd_Ta_putsIntoLog_81 rfl ?_
          refine jj_if_eq (tgt := 95) dd_Ta_putsIntoLog_82 (by decide) (fun _ => ?_) (fun h => absurd h (by decide))
          refine jj_iload_n 0 dd_Ta_putsIntoLog_95 rfl ?_
          refine jj_iret dd_Ta_putsIntoLog_96 rfl rfl ?_
          simp [mm_i_si, -Int32.not_lt, -Int32.not_le] at h16 h29 h42 h72
          first | (simpa [pl_M, pl_r, pl_L, mm_ret, mm_i_si, mm_si_same, -Int32.not_lt, -Int32.not_le, h16, h29, h42, h72] using hQ) | (exfalso; rw [h29] at h42; exact absurd h42 (by decide))
        · skip
          refine jj_iconst (v := 1) dd_Ta_putsIntoLog_75 rfl ?_
          refine jj_goto (tgt := 80) dd_Ta_putsIntoLog_76 (by decide) ?_
          refine jj_istore_n (lv' := [(2, .int (1)), (1, .int (1)), (0, .ref a)]) dd_Ta_putsIntoLog_80 (Nat.le_of_ble_eq_true rfl) rfl ?_
          refine jj_iload_n 0 dd_Ta_putsIntoLog_81 rfl ?_
          refine jj_if_eq (tgt := 95) dd_Ta_putsIntoLog_82 (by decide) (fun h => absurd h (by decide)) (fun _ => ?_)
          refine jj_aload_n 2 dd_Ta_putsIntoLog_85 rfl ?_
          refine jj_dup dd_Ta_putsIntoLog_86 rfl ?_
          refine jj_geti dd_Ta_putsIntoLog_87 ff_Ta_19 hk (fun _ => rfl) ?_
          refine jj_iconst (v := 1) dd_Ta_putsIntoLog_90 rfl ?_
          refine jj_iadd dd_Ta_putsIntoLog_91 ?_
          refine jj_puti dd_Ta_putsIntoLog_92 (Or.inl ⟨ff_Ta_19, rfl⟩) hk (fun _ => rfl) ⟨rfl, rfl⟩ ?_
          refine jj_iload_n 0 dd_Ta_putsIntoLog_95 rfl ?_
          refine jj_iret dd_Ta_putsIntoLog_96 rfl rfl ?_
          simp [mm_i_si, -Int32.not_lt, -Int32.not_le] at h16 h29 h42 h72
          first | (simpa [pl_M, pl_r, pl_L, mm_ret, mm_i_si, mm_si_same, -Int32.not_lt, -Int32.not_le, h16, h29, h42, h72] using hQ) | (exfalso; rw [h29] at h42; exact absurd h42 (by decide))
      · skip
        refine jj_aload_n 1 dd_Ta_putsIntoLog_45 rfl ?_
        refine jj_dup dd_Ta_putsIntoLog_46 rfl ?_
        refine jj_geti dd_Ta_putsIntoLog_47 ff_Ta_25 hk (fun _ => rfl) ?_
        refine jj_iconst (v := 1) dd_Ta_putsIntoLog_50 rfl ?_
        refine jj_isub dd_Ta_putsIntoLog_51 ?_
        refine jj_puti dd_Ta_putsIntoLog_52 (Or.inl ⟨ff_Ta_25, rfl⟩) hk (fun _ => rfl) ⟨rfl, rfl⟩ ?_
        refine jj_iload_n 0 dd_Ta_putsIntoLog_55 rfl ?_
        refine jj_if_eq (tgt := 64) dd_Ta_putsIntoLog_56 (by decide) (fun h => absurd h (by decide)) (fun _ => ?_)
        refine jj_aload_n 1 dd_Ta_putsIntoLog_59 rfl ?_
        refine jj_iconst (v := 0) dd_Ta_putsIntoLog_60 rfl ?_
        refine jj_puti dd_Ta_putsIntoLog_61 (Or.inl ⟨ff_Ta_9, rfl⟩) hk (fun _ => rfl) ⟨rfl, rfl⟩ ?_
        refine jj_iload_n 0 dd_Ta_putsIntoLog_64 rfl ?_
        refine jj_if_eq (tgt := 75) dd_Ta_putsIntoLog_65 (by decide) (fun h => absurd h (by decide)) (fun _ => ?_)
        refine jj_aload_n 1 dd_Ta_putsIntoLog_68 rfl ?_
        refine jj_geti dd_Ta_putsIntoLog_69 ff_Ta_28 hk (fun _ => rfl) ?_
        refine jj_if_eq (tgt := 79) dd_Ta_putsIntoLog_72 (by decide) (fun h72 => ?_) (fun h72 => ?_)
        · skip
          refine jj_iconst (v := 0) dd_Ta_putsIntoLog_79 rfl ?_
          refine jj_istore_n (lv' := [(2, .int (0)), (1, .int (1)), (0, .ref a)]) dd_Ta_putsIntoLog_80 (Nat.le_of_ble_eq_true rfl) rfl ?_
          refine jj_iload_n 0 dd_Ta_putsIntoLog_81 rfl ?_
          refine jj_if_eq (tgt := 95) dd_Ta_putsIntoLog_82 (by decide) (fun _ => ?_) (fun h => absurd h (by decide))
          refine jj_iload_n 0 dd_Ta_putsIntoLog_95 rfl ?_
          refine jj_iret dd_Ta_putsIntoLog_96 rfl rfl ?_
          simp [mm_i_si, -Int32.not_lt, -Int32.not_le] at h16 h29 h42 h72
          first | (simpa [pl_M, pl_r, pl_L, mm_ret, mm_i_si, mm_si_same, -Int32.not_lt, -Int32.not_le, h16, h29, h42, h72] using hQ) | (exfalso; rw [h29] at h42; exact absurd h42 (by decide))
        · skip
          refine jj_iconst (v := 1) dd_Ta_putsIntoLog_75 rfl ?_
          refine jj_goto (tgt := 80) dd_Ta_putsIntoLog_76 (by decide) ?_
          refine jj_istore_n (lv' := [(2, .int (1)), (1, .int (1)), (0, .ref a)]) dd_Ta_putsIntoLog_80 (Nat.le_of_ble_eq_true rfl) rfl ?_
          refine jj_iload_n 0 dd_Ta_putsIntoLog_81 rfl ?_
          refine jj_if_eq (tgt := 95) dd_Ta_putsIntoLog_82 (by decide) (fun h => absurd h (by decide)) (fun _ => ?_)
          refine jj_aload_n 2 dd_Ta_putsIntoLog_85 rfl ?_
          refine jj_dup dd_Ta_putsIntoLog_86 rfl ?_
          refine jj_geti dd_Ta_putsIntoLog_87 ff_Ta_19 hk (fun _ => rfl) ?_
          refine jj_iconst (v := 1) dd_Ta_putsIntoLog_90 rfl ?_
          refine jj_iadd dd_Ta_putsIntoLog_91 ?_
          refine jj_puti dd_Ta_putsIntoLog_92 (Or.inl ⟨ff_Ta_19, rfl⟩) hk (fun _ => rfl) ⟨rfl, rfl⟩ ?_
          refine jj_iload_n 0 dd_Ta_putsIntoLog_95 rfl ?_
          refine jj_iret dd_Ta_putsIntoLog_96 rfl rfl ?_
          simp [mm_i_si, -Int32.not_lt, -Int32.not_le] at h16 h29 h42 h72
          first | (simpa [pl_M, pl_r, pl_L, mm_ret, mm_i_si, mm_si_same, -Int32.not_lt, -Int32.not_le, h16, h29, h42, h72] using hQ) | (exfalso; rw [h29] at h42; exact absurd h42 (by decide))
  · skip
    refine jj_aload_n 0 dd_Ta_putsIntoLog_19 rfl ?_
    refine jj_iconst (v := 0) dd_Ta_putsIntoLog_20 rfl ?_
    refine jj_puti dd_Ta_putsIntoLog_21 (Or.inl ⟨ff_Ta_19, rfl⟩) hk (fun _ => rfl) ⟨rfl, rfl⟩ ?_
    refine jj_aload_n 0 dd_Ta_putsIntoLog_24 rfl ?_
    refine jj_geti dd_Ta_putsIntoLog_25 ff_Ta_25 hk (fun _ => rfl) ?_
    refine jj_iconst (v := 1) dd_Ta_putsIntoLog_28 rfl ?_
    refine jj_icmp_ne (tgt := 36) dd_Ta_putsIntoLog_29 (by decide) (fun h29 => ?_) (fun h29 => ?_)
    · skip
      refine jj_iconst (v := 0) dd_Ta_putsIntoLog_36 rfl ?_
      refine jj_istore_n (lv' := [(1, .int (0)), (0, .ref a)]) dd_Ta_putsIntoLog_37 (Nat.le_of_ble_eq_true rfl) rfl ?_
      refine jj_aload_n 1 dd_Ta_putsIntoLog_38 rfl ?_
      refine jj_geti dd_Ta_putsIntoLog_39 ff_Ta_25 hk (fun _ => rfl) ?_
      refine jj_if_le (tgt := 55) dd_Ta_putsIntoLog_42 (by decide) (fun h42 => ?_) (fun h42 => ?_)
      · skip
        refine jj_iload_n 0 dd_Ta_putsIntoLog_55 rfl ?_
        refine jj_if_eq (tgt := 64) dd_Ta_putsIntoLog_56 (by decide) (fun _ => ?_) (fun h => absurd h (by decide))
        refine jj_iload_n 0 dd_Ta_putsIntoLog_64 rfl ?_
        refine jj_if_eq (tgt := 75) dd_Ta_putsIntoLog_65 (by decide) (fun _ => ?_) (fun h => absurd h (by decide))
        refine jj_iconst (v := 1) dd_Ta_putsIntoLog_75 rfl ?_
        refine jj_goto (tgt := 80) dd_Ta_putsIntoLog_76 (by decide) ?_
        refine jj_istore_n (lv' := [(2, .int (1)), (1, .int (0)), (0, .ref a)]) dd_Ta_putsIntoLog_80 (Nat.le_of_ble_eq_true rfl) rfl ?_
        refine jj_iload_n 0 dd_Ta_putsIntoLog_81 rfl ?_
        refine jj_if_eq (tgt := 95) dd_Ta_putsIntoLog_82 (by decide) (fun h => absurd h (by decide)) (fun _ => ?_)
        refine jj_aload_n 2 dd_Ta_putsIntoLog_85 rfl ?_
        refine jj_dup dd_Ta_putsIntoLog_86 rfl ?_
        refine jj_geti dd_Ta_putsIntoLog_87 ff_Ta_19 hk (fun _ => rfl) ?_
        refine jj_iconst (v := 1) dd_Ta_putsIntoLog_90 rfl ?_
        refine jj_iadd dd_Ta_putsIntoLog_91 ?_
        refine jj_puti dd_Ta_putsIntoLog_92 (Or.inl ⟨ff_Ta_19, rfl⟩) hk (fun _ => rfl) ⟨rfl, rfl⟩ ?_
        refine jj_iload_n 0 dd_Ta_putsIntoLog_95 rfl ?_
        refine jj_iret dd_Ta_putsIntoLog_96 rfl rfl ?_
        simp [mm_i_si, -Int32.not_lt, -Int32.not_le] at h16 h29 h42
        first | (simpa [pl_M, pl_r, pl_L, mm_ret, mm_i_si, mm_si_same, -Int32.not_lt, -Int32.not_le, h16, h29, h42] using hQ) | (exfalso; rw [h29] at h42; exact absurd h42 (by decide))
      · skip
        refine jj_aload_n 1 dd_Ta_putsIntoLog_45 rfl ?_
        refine jj_dup dd_Ta_putsIntoLog_46 rfl ?_
        refine jj_geti dd_Ta_putsIntoLog_47 ff_Ta_25 hk (fun _ => rfl) ?_
        refine jj_iconst (v := 1) dd_Ta_putsIntoLog_50 rfl ?_
        refine jj_isub dd_Ta_putsIntoLog_51 ?_
        refine jj_puti dd_Ta_putsIntoLog_52 (Or.inl ⟨ff_Ta_25, rfl⟩) hk (fun _ => rfl) ⟨rfl, rfl⟩ ?_
        refine jj_iload_n 0 dd_Ta_putsIntoLog_55 rfl ?_
        refine jj_if_eq (tgt := 64) dd_Ta_putsIntoLog_56 (by decide) (fun _ => ?_) (fun h => absurd h (by decide))
        refine jj_iload_n 0 dd_Ta_putsIntoLog_64 rfl ?_
        refine jj_if_eq (tgt := 75) dd_Ta_putsIntoLog_65 (by decide) (fun _ => ?_) (fun h => absurd h (by decide))
        refine jj_iconst (v := 1) dd_Ta_putsIntoLog_75 rfl ?_
        refine jj_goto (tgt := 80) dd_Ta_putsIntoLog_76 (by decide) ?_
        refine jj_istore_n (lv' := [(2, .int (1)), (1, .int (0)), (0, .ref a)]) dd_Ta_putsIntoLog_80 (Nat.le_of_ble_eq_true rfl) rfl ?_
        refine jj_iload_n 0 dd_Ta_putsIntoLog_81 rfl ?_
        refine jj_if_eq (tgt := 95) dd_Ta_putsIntoLog_82 (by decide) (fun h => absurd h (by decide)) (fun _ => ?_)
        refine jj_aload_n 2 dd_Ta_putsIntoLog_85 rfl ?_
        refine jj_dup dd_Ta_putsIntoLog_86 rfl ?_
        refine jj_geti dd_Ta_putsIntoLog_87 ff_Ta_19 hk (fun _ => rfl) ?_
        refine jj_iconst (v := 1) dd_Ta_putsIntoLog_90 rfl ?_
        refine jj_iadd dd_Ta_putsIntoLog_91 ?_
        refine jj_puti dd_Ta_putsIntoLog_92 (Or.inl ⟨ff_Ta_19, rfl⟩) hk (fun _ => rfl) ⟨rfl, rfl⟩ ?_
        refine jj_iload_n 0 dd_Ta_putsIntoLog_95 rfl ?_
        refine jj_iret dd_Ta_putsIntoLog_96 rfl rfl ?_
        simp [mm_i_si, -Int32.not_lt, -Int32.not_le] at h16 h29 h42
        first | (simpa [pl_M, pl_r, pl_L, mm_ret, mm_i_si, mm_si_same, -Int32.not_lt, -Int32.not_le, h16, h29, h42] using hQ) | (exfalso; rw [h29] at h42; exact absurd h42 (by decide))
    · skip
      refine jj_iconst (v := 1) dd_Ta_putsIntoLog_32 rfl ?_
      refine jj_goto (tgt := 37) dd_Ta_putsIntoLog_33 (by decide) ?_
      refine jj_istore_n (lv' := [(1, .int (1)), (0, .ref a)]) dd_Ta_putsIntoLog_37 (Nat.le_of_ble_eq_true rfl) rfl ?_
      refine jj_aload_n 1 dd_Ta_putsIntoLog_38 rfl ?_
      refine jj_geti dd_Ta_putsIntoLog_39 ff_Ta_25 hk (fun _ => rfl) ?_
      refine jj_if_le (tgt := 55) dd_Ta_putsIntoLog_42 (by decide) (fun h42 => ?_) (fun h42 => ?_)
      · skip
        refine jj_iload_n 0 dd_Ta_putsIntoLog_55 rfl ?_
        refine jj_if_eq (tgt := 64) dd_Ta_putsIntoLog_56 (by decide) (fun h => absurd h (by decide)) (fun _ => ?_)
        refine jj_aload_n 1 dd_Ta_putsIntoLog_59 rfl ?_
        refine jj_iconst (v := 0) dd_Ta_putsIntoLog_60 rfl ?_
        refine jj_puti dd_Ta_putsIntoLog_61 (Or.inl ⟨ff_Ta_9, rfl⟩) hk (fun _ => rfl) ⟨rfl, rfl⟩ ?_
        refine jj_iload_n 0 dd_Ta_putsIntoLog_64 rfl ?_
        refine jj_if_eq (tgt := 75) dd_Ta_putsIntoLog_65 (by decide) (fun h => absurd h (by decide)) (fun _ => ?_)
        refine jj_aload_n 1 dd_Ta_putsIntoLog_68 rfl ?_
        refine jj_geti dd_Ta_putsIntoLog_69 ff_Ta_28 hk (fun _ => rfl) ?_
        refine jj_if_eq (tgt := 79) dd_Ta_putsIntoLog_72 (by decide) (fun h72 => ?_) (fun h72 => ?_)
        · skip
          refine jj_iconst (v := 0) dd_Ta_putsIntoLog_79 rfl ?_
          refine jj_istore_n (lv' := [(2, .int (0)), (1, .int (1)), (0, .ref a)]) dd_Ta_putsIntoLog_80 (Nat.le_of_ble_eq_true rfl) rfl ?_
          refine jj_iload_n 0 dd_Ta_putsIntoLog_81 rfl ?_
          refine jj_if_eq (tgt := 95) dd_Ta_putsIntoLog_82 (by decide) (fun _ => ?_) (fun h => absurd h (by decide))
          refine jj_iload_n 0 dd_Ta_putsIntoLog_95 rfl ?_
          refine jj_iret dd_Ta_putsIntoLog_96 rfl rfl ?_
          simp [mm_i_si, -Int32.not_lt, -Int32.not_le] at h16 h29 h42 h72
          first | (simpa [pl_M, pl_r, pl_L, mm_ret, mm_i_si, mm_si_same, -Int32.not_lt, -Int32.not_le, h16, h29, h42, h72] using hQ) | (exfalso; rw [h29] at h42; exact absurd h42 (by decide))
        · skip
          refine jj_iconst (v := 1) dd_Ta_putsIntoLog_75 rfl ?_
          refine jj_goto (tgt := 80) dd_Ta_putsIntoLog_76 (by decide) ?_
          refine jj_istore_n (lv' := [(2, .int (1)), (1, .int (1)), (0, .ref a)]) dd_Ta_putsIntoLog_80 (Nat.le_of_ble_eq_true rfl) rfl ?_
          refine jj_iload_n 0 dd_Ta_putsIntoLog_81 rfl ?_
          refine jj_if_eq (tgt := 95) dd_Ta_putsIntoLog_82 (by decide) (fun h => absurd h (by decide)) (fun _ => ?_)
          refine jj_aload_n 2 dd_Ta_putsIntoLog_85 rfl ?_
          refine jj_dup dd_Ta_putsIntoLog_86 rfl ?_
          refine jj_geti dd_Ta_putsIntoLog_87 ff_Ta_19 hk (fun _ => rfl) ?_
          refine jj_iconst (v := 1) dd_Ta_putsIntoLog_90 rfl ?_
          refine jj_iadd dd_Ta_putsIntoLog_91 ?_
          refine jj_puti dd_Ta_putsIntoLog_92 (Or.inl ⟨ff_Ta_19, rfl⟩) hk (fun _ => rfl) ⟨rfl, rfl⟩ ?_
          refine jj_iload_n 0 dd_Ta_putsIntoLog_95 rfl ?_
          refine jj_iret dd_Ta_putsIntoLog_96 rfl rfl ?_
          simp [mm_i_si, -Int32.not_lt, -Int32.not_le] at h16 h29 h42 h72
          first | (simpa [pl_M, pl_r, pl_L, mm_ret, mm_i_si, mm_si_same, -Int32.not_lt, -Int32.not_le, h16, h29, h42, h72] using hQ) | (exfalso; rw [h29] at h42; exact absurd h42 (by decide))
      · skip
        refine jj_aload_n 1 dd_Ta_putsIntoLog_45 rfl ?_
        refine jj_dup dd_Ta_putsIntoLog_46 rfl ?_
        refine jj_geti dd_Ta_putsIntoLog_47 ff_Ta_25 hk (fun _ => rfl) ?_
        refine jj_iconst (v := 1) dd_Ta_putsIntoLog_50 rfl ?_
        refine jj_isub dd_Ta_putsIntoLog_51 ?_
        refine jj_puti dd_Ta_putsIntoLog_52 (Or.inl ⟨ff_Ta_25, rfl⟩) hk (fun _ => rfl) ⟨rfl, rfl⟩ ?_
        refine jj_iload_n 0 dd_Ta_putsIntoLog_55 rfl ?_
        refine jj_if_eq (tgt := 64) dd_Ta_putsIntoLog_56 (by decide) (fun h => absurd h (by decide)) (fun _ => ?_)
        refine jj_aload_n 1 dd_Ta_putsIntoLog_59 rfl ?_
        refine jj_iconst (v := 0) dd_Ta_putsIntoLog_60 rfl ?_
        refine jj_puti dd_Ta_putsIntoLog_61 (Or.inl ⟨ff_Ta_9, rfl⟩) hk (fun _ => rfl) ⟨rfl, rfl⟩ ?_
        refine jj_iload_n 0 dd_Ta_putsIntoLog_64 rfl ?_
        refine jj_if_eq (tgt := 75) dd_Ta_putsIntoLog_65 (by decide) (fun h => absurd h (by decide)) (fun _ => ?_)
        refine jj_aload_n 1 dd_Ta_putsIntoLog_68 rfl ?_
        refine jj_geti dd_Ta_putsIntoLog_69 ff_Ta_28 hk (fun _ => rfl) ?_
        refine jj_if_eq (tgt := 79) dd_Ta_putsIntoLog_72 (by decide) (fun h72 => ?_) (fun h72 => ?_)
        · skip
          refine jj_iconst (v := 0) dd_Ta_putsIntoLog_79 rfl ?_
          refine jj_istore_n (lv' := [(2, .int (0)), (1, .int (1)), (0, .ref a)]) dd_Ta_putsIntoLog_80 (Nat.le_of_ble_eq_true rfl) rfl ?_
          refine jj_iload_n 0 dd_Ta_putsIntoLog_81 rfl ?_
          refine jj_if_eq (tgt := 95) dd_Ta_putsIntoLog_82 (by decide) (fun _ => ?_) (fun h => absurd h (by decide))
          refine jj_iload_n 0 dd_Ta_putsIntoLog_95 rfl ?_
          refine jj_iret dd_Ta_putsIntoLog_96 rfl rfl ?_
          simp [mm_i_si, -Int32.not_lt, -Int32.not_le] at h16 h29 h42 h72
          first | (simpa [pl_M, pl_r, pl_L, mm_ret, mm_i_si, mm_si_same, -Int32.not_lt, -Int32.not_le, h16, h29, h42, h72] using hQ) | (exfalso; rw [h29] at h42; exact absurd h42 (by decide))
        · skip
          refine jj_iconst (v := 1) dd_Ta_putsIntoLog_75 rfl ?_
          refine jj_goto (tgt := 80) dd_Ta_putsIntoLog_76 (by decide) ?_
          refine jj_istore_n (lv' := [(2, .int (1)), (1, .int (1)), (0, .ref a)]) dd_Ta_putsIntoLog_80 (Nat.le_of_ble_eq_true rfl) rfl ?_
          refine jj_iload_n 0 dd_Ta_putsIntoLog_81 rfl ?_
          refine jj_if_eq (tgt := 95) dd_Ta_putsIntoLog_82 (by decide) (fun h => absurd h (by decide)) (fun _ => ?_)
          refine jj_aload_n 2 dd_Ta_putsIntoLog_85 rfl ?_
          refine jj_dup dd_Ta_putsIntoLog_86 rfl ?_
          refine jj_geti dd_Ta_putsIntoLog_87 ff_Ta_19 hk (fun _ => rfl) ?_
          refine jj_iconst (v := 1) dd_Ta_putsIntoLog_90 rfl ?_
          refine jj_iadd dd_Ta_putsIntoLog_91 ?_
          refine jj_puti dd_Ta_putsIntoLog_92 (Or.inl ⟨ff_Ta_19, rfl⟩) hk (fun _ => rfl) ⟨rfl, rfl⟩ ?_
          refine jj_iload_n 0 dd_Ta_putsIntoLog_95 rfl ?_
          refine jj_iret dd_Ta_putsIntoLog_96 rfl rfl ?_
          simp [mm_i_si, -Int32.not_lt, -Int32.not_le] at h16 h29 h42 h72
          first | (simpa [pl_M, pl_r, pl_L, mm_ret, mm_i_si, mm_si_same, -Int32.not_lt, -Int32.not_le, h16, h29, h42, h72] using hQ) | (exfalso; rw [h29] at h42; exact absurd h42 (by decide))
end
section
def oo_k (n : Nat) : Option mm_K :=
  if n = 0 then some (.inl 0) else if n = 1 then some (.inl 1) else if n = 2 then some (.inr (3, 3)) else if n = 3 then some (.inr (4, 12)) else if n = 4 then some (.inr (5, 4))
  else if 10 ≤ n ∧ n < 13 then some (.inl 2) else if 20 ≤ n ∧ n < 32 then some (.inl 3) else if 40 ≤ n ∧ n < 44 then some (.inl 6) else if 50 ≤ n ∧ n < 54 then some (.inr (0, 12))
  else if n = 60 then some (.inl 7) else if 65 ≤ n ∧ n < 71 then some (.inr (0, 12)) else if 72 ≤ n ∧ n < 77 then some (.inr (0, 1540)) else if n = 77 then some (.inr (1, 3)) else if 78 ≤ n ∧ n < 82 then some (.inr (0, 3)) else if n = 82 then some (.inr (1, 3))
  else if 83 ≤ n ∧ n < 86 then some (.inr (0, 4)) else if n = 86 then some (.inr (1, 4)) else if 87 ≤ n ∧ n < 89 then some (.inr (0, 48)) else if 89 ≤ n ∧ n < 91 then some (.inr (1, 48)) else if n = 100 then some (.inr (2, 1)) else none
def oo_m (k : Nat) : Bool := (5 ≤ k && k < 11) || (12 ≤ k && k < 31)
def rp_ly (g : Nat → Nat) (M : mm_M) : Prop :=
  (∀ n t, oo_k n = some t → mm_k M (g n) = some t) ∧ (∀ n n' t t', oo_k n = some t → oo_k n' = some t' → g n = g n' → n = n') ∧
  (mm_r M (g 0) 1 = some (g 1) ∧ mm_r M (g 0) 2 = some (g 2) ∧ mm_r M (g 0) 3 = some (g 3) ∧ mm_r M (g 0) 4 = some (g 4)) ∧
  (∀ t, t < 3 → mm_r M (g 2) t = some (g (10 + t))) ∧ (∀ i, i < 12 → mm_r M (g 3) i = some (g (20 + i)) ∧ mm_r M (g (20 + i)) 0 = some (g (10 + i / 4))) ∧
  (∀ c, c < 4 → mm_r M (g 4) c = some (g (40 + c)) ∧ mm_r M (g (40 + c)) 1 = some (g (50 + c))) ∧
  (∀ k, oo_m k = true → mm_r M (g 60) k = some (g (60 + k)))
def ch_ (M : mm_M) : Option Nat → List Nat → Prop
  | none, [] => True
  | some a, b :: bs => a = b ∧ mm_k M a = some (.inl 5) ∧ ch_ M (mm_r M a 4) bs
  | _, _ => False
abbrev vv_ : Type := Int32 × Int32 × Int32 × Int32
def vv_of (M : mm_M) (a : Nat) : vv_ := (mm_i M a 0, mm_i M a 1, mm_i M a 2, mm_i M a 3)
abbrev ss_ : Type := (Nat → Nat → Int32) × (Nat → Option (Nat → Int32)) × (Nat → List vv_)
def rp_lk (M : mm_M) (r : Option Nat) (f : Option (Nat → Int32)) : Prop := match f with
  | none => r = none
  | some f => ∃ a, r = some a ∧ mm_k M a = some (.inl 4) ∧ ∀ j, j < 6 → mm_i M a j = f j
def rp_dy (g : Nat → Nat) (M : mm_M) (L : Nat → Option (Nat → Int32)) (V : Nat → List vv_) : Prop :=
  (∀ i, i < 12 → rp_lk M (mm_r M (g (20 + i)) 1) (L i)) ∧
  ∃ as : Nat → List Nat, (∀ i, i < 12 → ch_ M (mm_r M (g (20 + i)) 2) (as i) ∧ (as i).map (vv_of M) = V i ∧ (as i).Nodup) ∧ ∀ i j, i < 12 → j < 12 → i ≠ j → ∀ a, a ∈ as i → a ∉ as j
def rp_ (g : Nat → Nat) (M : mm_M) (S : ss_) : Prop := rp_ly g M ∧ (∀ n t, oo_k n = some t → ∀ j, mm_i M (g n) j = S.1 n j) ∧ rp_dy g M S.2.1 S.2.2
def uf_ (F : Nat → Nat → Int32) (n j : Nat) (x : Int32) : Nat → Nat → Int32 := fun n' j' => if n' = n ∧ j' = j then x else F n' j'
theorem oo_ite {c : Prop} [Decidable c] {a b z : Option mm_K} (ha : a ≠ z) (hb : b ≠ z) : (if c then a else b) ≠ z := by
  by_cases h : c
  · rw [if_pos h]; exact ha
  · rw [if_neg h]; exact hb
theorem oo_k_no4 (n : Nat) : oo_k n ≠ some (.inl 4) ∧ oo_k n ≠ some (.inl 5) := by
  unfold oo_k
  constructor
  · repeat (refine oo_ite (by simp) ?_)
    simp
  · repeat (refine oo_ite (by simp) ?_)
    simp
theorem ch_si {M : mm_M} {b k : Nat} {x : Int32} : ∀ {as : List Nat} {r : Option Nat}, ch_ M r as → ch_ (mm_si M b k x) r as := by
  intro as
  induction as with
  | nil =>
    intro r h
    cases r with
    | none => trivial
    | some a => exact h
  | cons c cs ih =>
    intro r h
    cases r with
    | none => exact h
    | some a => exact ⟨h.1, h.2.1, ih h.2.2⟩
theorem ch_kind {M : mm_M} : ∀ {as : List Nat} {r : Option Nat}, ch_ M r as → ∀ a, a ∈ as → mm_k M a = some (.inl 5) := by
  intro as
  induction as with
  | nil =>
    intro r h a ha
    cases ha
  | cons c cs ih =>
    intro r h a ha
    cases r with
    | none => exact h.elim
    | some b =>
      obtain ⟨rfl, h2, h3⟩ := h
      rcases List.mem_cons.mp ha with rfl | ha
      · exact h2
      · exact ih h3 a ha
theorem rp_si {g : Nat → Nat} {M : mm_M} {S : ss_} {n j : Nat} {t : mm_K} {x : Int32} (h : rp_ g M S) (hn : oo_k n = some t) : rp_ g (mm_si M (g n) j x) (uf_ S.1 n j x, S.2) := by
  obtain ⟨hl, hi, hd⟩ := h
  have hk := hl.1 n t hn
  have h4 : ∀ a, mm_k M a = some (.inl 4) → a ≠ g n := fun a ha e => by
    rw [e, hk] at ha
    exact (oo_k_no4 n).1 (hn.trans ha)
  have h5 : ∀ a, mm_k M a = some (.inl 5) → a ≠ g n := fun a ha e => by
    rw [e, hk] at ha
    exact (oo_k_no4 n).2 (hn.trans ha)
  refine ⟨hl, fun n' t' hn' j' => ?_, fun i hi12 => ?_, ?_⟩
  · rw [mm_i_si]
    show _ = if n' = n ∧ j' = j then x else S.1 n' j'
    by_cases e : n' = n
    · subst e
      by_cases e2 : j' = j
      · rw [if_pos ⟨rfl, e2⟩, if_pos ⟨rfl, e2⟩]
      · rw [if_neg (fun z => e2 z.2), if_neg (fun z => e2 z.2)]
        exact hi n' t' hn' j'
    · rw [if_neg (fun z => e (hl.2.1 n' n t' t hn' hn z.1)), if_neg (fun z => e z.1)]
      exact hi n' t' hn' j'
  · have h0 := hd.1 i hi12
    show rp_lk (mm_si M (g n) j x) (mm_r M (g (20 + i)) 1) (S.2.1 i)
    cases hL : S.2.1 i with
    | none =>
      rw [hL] at h0
      exact h0
    | some f =>
      rw [hL] at h0
      obtain ⟨a, r1, r2, r3⟩ := h0
      refine ⟨a, r1, r2, fun j' hj' => ?_⟩
      rw [mm_i_si, if_neg (fun z => h4 a r2 z.1)]
      exact r3 j' hj'
  · obtain ⟨as, q1, q2⟩ := hd.2
    refine ⟨as, fun i hi12 => ?_, q2⟩
    obtain ⟨p1, p2, p3⟩ := q1 i hi12
    refine ⟨ch_si p1, ?_, p3⟩
    rw [← p2]
    refine List.map_congr_left (fun a ha => ?_)
    have hne := h5 a (ch_kind p1 a ha)
    have e : ∀ j', mm_i (mm_si M (g n) j x) a j' = mm_i M a j' := fun j' => by rw [mm_i_si, if_neg (fun z => hne z.1)]
    unfold vv_of
    rw [e, e, e, e]
end
section
def qs_ (g : Nat → Nat) (Q : Option Value → ss_ → Prop) : Option Value → mm_M → Prop := fun v M => ∃ S, rp_ g M S ∧ Q v S
def cs_ (l : Launch) (y : MethodName) (cc : ByteArray) (nL : Nat) (ret : Option FieldType) (d mc ms : Nat) (g : Nat → Nat) (vs : List Value) (S : ss_) (Q : Option Value → ss_ → Prop) : Prop :=
  ∀ M, rp_ g M S → ct_ l y cc nL ret d mc ms vs M (qs_ g Q)
theorem ct_mono {l : Launch} {y : MethodName} {cc : ByteArray} {nL : Nat} {ret : Option FieldType} {d mc ms : Nat} {vs : List Value} {M : mm_M} {Q Q' : Option Value → mm_M → Prop} (h : ∀ v M', Q v M' → Q' v M') (k : ct_ l y cc nL ret d mc ms vs M Q) : ct_ l y cc nL ret d mc ms vs M Q' := by
  intro G sz p e ha hc hk s m args below hf happ hP hK
  obtain ⟨n, o, h1, h2, h3, ⟨oo, M', h4, h5, h6⟩, h7⟩ := k G sz p e ha hc hk s m args below hf happ hP hK
  refine ⟨n, o, h1, h2, h3, ⟨oo, M', h4, ?_, h6⟩, h7⟩
  cases oo with
  | inl v => exact h v M' h5
  | inr q => exact h5
section JS
variable {l : Launch} {y : MethodName} {cc : ByteArray} {nL : Nat} {ret : Option FieldType} {G : mm_G} {R : Room} {A : Nat → Prop} {Q : mm_O → mm_M → Prop} {mc ms pc : Nat} {lv : List (Nat × Value)} {st : List Value} {M : mm_M} {g : Nat → Nat} {S : ss_}
theorem jj_gS {n ci idx k : Nat} (hS : rp_ g M S) (hd : decode cc pc = .ok (.getfield idx, 3)) (hf : mm_Fl y.cls idx ci k) (hn : oo_k n = some (.inl ci)) (hv : ∀ M' : mm_M, mm_fv M' (g n) (nn_t ci k) k = .int (mm_i M' (g n) k)) (kk : jj_ l y cc nL ret G R A Q mc ms (pc + 3) lv (.int (S.1 n k) :: st) M) : jj_ l y cc nL ret G R A Q mc ms pc lv (.ref (g n) :: st) M :=
  jj_get hd hf (hS.1.1 n _ hn) (by rw [hv M, hS.2.1 n _ hn k]) kk
theorem jj_rS {n k idx : Nat} (hS : rp_ g M S) (hd : decode cc pc = .ok (.getfield idx, 3)) (hf : mm_Fl y.cls idx 7 k) (hk : oo_m k = true) (hv : ∀ M' : mm_M, mm_fv M' (g 60) (nn_t 7 k) k = va_rf (mm_r M' (g 60) k)) (hn : 60 + k = n) (kk : jj_ l y cc nL ret G R A Q mc ms (pc + 3) lv (.ref (g n) :: st) M) : jj_ l y cc nL ret G R A Q mc ms pc lv (.ref (g 60) :: st) M := by
  subst hn
  exact jj_getr hd hf (hS.1.1 60 _ rfl) hv (some (g (60 + k))) (hS.1.2.2.2.2.2.2 k hk) kk
theorem jj_pS {n ci idx k : Nat} {x : Int32} (hS : rp_ g M S) (hd : decode cc pc = .ok (.putfield idx, 3)) (hf : mm_Fl y.cls idx ci k ∧ (nn_T ci k).2.2.2 = false) (hn : oo_k n = some (.inl ci)) (hv : ∀ M' : mm_M, mm_fv M' (g n) (nn_t ci k) k = .int (mm_i M' (g n) k)) (hx : narrow (nn_t ci k) (.int x) = .int x ∧ fits (nn_t ci k) (.int x) = true)
    (kk : ∀ M', rp_ g M' (uf_ S.1 n k x, S.2) → jj_ l y cc nL ret G R A Q mc ms (pc + 3) lv st M') : jj_ l y cc nL ret G R A Q mc ms pc lv (.int x :: .ref (g n) :: st) M :=
  jj_puti hd (Or.inl hf) (hS.1.1 n _ hn) hv hx (kk _ (rp_si hS hn))
theorem jj_aS {n N : Nat} {i : Int32} (hS : rp_ g M S) (hd : decode cc pc = .ok (.iaload, 1)) (hn : oo_k n = some (.inr (0, N))) (hin : vp_in i N) (j : Nat) (hj : i.toNatClampNeg = j) (kk : jj_ l y cc nL ret G R A Q mc ms (pc + 1) lv (.int (S.1 n j) :: st) M) : jj_ l y cc nL ret G R A Q mc ms pc lv (.int i :: .ref (g n) :: st) M := by
  refine jj_iald hd (hS.1.1 n _ hn) (Or.inl rfl) hin ?_
  rw [hS.2.1 n _ hn, hj]
  exact kk
theorem jj_zS {n N : Nat} {i : Int32} (hS : rp_ g M S) (hd : decode cc pc = .ok (.baload, 1)) (hn : oo_k n = some (.inr (1, N))) (hin : vp_in i N) (j : Nat) (hj : i.toNatClampNeg = j) (kk : jj_ l y cc nL ret G R A Q mc ms (pc + 1) lv (.int (S.1 n j) :: st) M) : jj_ l y cc nL ret G R A Q mc ms pc lv (.int i :: .ref (g n) :: st) M := by
  refine jj_zald hd (hS.1.1 n _ hn) hin ?_
  rw [hS.2.1 n _ hn, hj]
  exact kk
theorem jj_asS {n N : Nat} {i x : Int32} (hS : rp_ g M S) (hd : decode cc pc = .ok (.iastore, 1)) (hn : oo_k n = some (.inr (0, N))) (hin : vp_in i N) (j : Nat) (hj : i.toNatClampNeg = j) (kk : ∀ M', rp_ g M' (uf_ S.1 n j x, S.2) → jj_ l y cc nL ret G R A Q mc ms (pc + 1) lv st M') : jj_ l y cc nL ret G R A Q mc ms pc lv (.int x :: .int i :: .ref (g n) :: st) M := by
  subst hj
  exact jj_iast hd (hS.1.1 n _ hn) hin (kk _ (rp_si hS hn))
theorem jj_zsS {n N : Nat} {i x : Int32} (hS : rp_ g M S) (hd : decode cc pc = .ok (.bastore, 1)) (hn : oo_k n = some (.inr (1, N))) (hin : vp_in i N) (hz : narrow .boolean (.int x) = .int x) (j : Nat) (hj : i.toNatClampNeg = j) (kk : ∀ M', rp_ g M' (uf_ S.1 n j x, S.2) → jj_ l y cc nL ret G R A Q mc ms (pc + 1) lv st M') : jj_ l y cc nL ret G R A Q mc ms pc lv (.int x :: .int i :: .ref (g n) :: st) M := by
  subst hj
  exact jj_zast hd (hS.1.1 n _ hn) hin hz (kk _ (rp_si hS hn))
theorem jj_ti {x x' : Int32} (h : x = x') (k : jj_ l y cc nL ret G R A Q mc ms pc lv (.int x' :: st) M) : jj_ l y cc nL ret G R A Q mc ms pc lv (.int x :: st) M := by
  rw [h]
  exact k
end JS
end
section
def rb_s (s T : State) : State := { s with heap := T.heap, slotsUsed := T.slotsUsed }
def rb_R (R : Room) (k n : Nat) : Room := { R with cells := R.cells - k, slots := R.slots - n }
section RB
variable {p : Program} {l : Launch} {e : Env} {R : Room} {s : State} {m : MethodId} {args : Array Value} {below : List Frame} {meth : Method} {c : Code} {T : State} {locs : List Loc} {cells slots : Nat}
theorem rb_stand (X : Stand p l e R s m args below meth c T locs cells slots) (hc : cells ≤ R.cells) (hs : slots ≤ R.slots) : Stand p l e (rb_R R cells slots) (rb_s s T) m args below meth c T [] 0 0 := by
  refine ⟨X.admits, X.cas, X.clock, X.frames, ?_, X.hears, X.method, X.code, X.here, X.tail, X.warmed, X.limits, X.bytes, ?_⟩
  · have h := X.room
    have h1 := X.heapSize
    have h2 := X.used
    have h3 := X.book
    simp only [State.hasRoom, Bool.and_eq_true, decide_eq_true_eq] at h ⊢
    obtain ⟨⟨⟨⟨a1, a2⟩, a3⟩, a4⟩, a5⟩ := h
    refine ⟨⟨⟨⟨a1, a2⟩, ?_⟩, ?_⟩, h3⟩
    · show T.heap.size + (R.cells - cells) ≤ _
      omega
    · show T.slotsUsed + (R.slots - slots) ≤ _
      omega
  · have hd : (T.heap.toList.drop T.heap.size) = [] := List.drop_eq_nil_of_le (by simp)
    refine ⟨X.same.1, Nat.le_refl _, Nat.le_refl _, ?_, ?_, fun a c h => ⟨c, h, rfl, rfl, fun _ _ => rfl⟩⟩
    · show T.slotsUsed = T.slotsUsed + ((T.heap.toList.drop T.heap.size).map (·.slots.size)).sum
      rw [hd]
      rfl
    · show ((T.heap.toList.drop T.heap.size).map (·.slots.size)).sum ≤ 0
      rw [hd]
      exact Nat.le_refl _
theorem rb_back (X : Stand p l e R s m args below meth c T locs cells slots) {U : State} {k n : Nat} (h : (rb_s s T).sameButNew ({ U with vm := s.vm } : State) [] k n) : s.sameButNew ({ U with vm := s.vm } : State) locs (cells + k) (slots + n) := by
  have h2 : (T.setVm s.vm).sameButNew ({ U with vm := s.vm } : State) [] k n := by
    refine ⟨?_, h.2⟩
    have e1 := X.same.1
    have e2 := h.1
    rw [e1]
    refine e2.trans ?_
    have e3 : (s.setFrames (T.setVm s.vm).frames).setFrames ({ U with vm := s.vm } : State).frames = s.setFrames ({ U with vm := s.vm } : State).frames := State.setFrames_setFrames _ _ _
    have e4 := congrArg (fun z : State => ({ z with heap := U.heap, slotsUsed := U.slotsUsed } : State)) e3
    exact e4.symm
  have h3 := X.same.trans h2
  rw [List.append_nil] at h3
  exact h3
theorem rb_keep {U : State} {k n : Nat} (h : (rb_s s T).sameButNew ({ U with vm := s.vm } : State) [] k n) {q : Nat} (hq : q < T.heap.size) : U.heap[q]? = T.heap[q]? := by
  cases hc : T.heap[q]? with
  | none => exact absurd hq (by simpa using hc)
  | some cell =>
    obtain ⟨c', h1, h2, h3, h4⟩ := h.2.2.2.2.2 q cell hc
    have e1 : c'.slots = cell.slots := by
      apply Array.ext_getElem?
      intro i
      exact h4 i (fun z => by cases z)
    have h1 : U.heap[q]? = some c' := h1
    rw [h1, h2, e1]
end RB
end
section
def nn_XN : List String := ["java/lang/RuntimeException", "java/lang/Exception"]
theorem th_fit : ∀ n ∈ nn_XN, Bundle.fit n = true := by decide +kernel
theorem th_fitX : ∀ ei, ei < 4 → Bundle.fit (nn_X ei) = true := by decide +kernel
def th_ok (own : String) (ix ic is ei : Nat) (tx : String) : Prop :=
  ei < 4 ∧ Cond.classLink own ix (nn_X ei) ∈ nn_TS ∧ Cond.instantiable (nn_X ei) 6 ∈ nn_TS ∧ Cond.initialized (nn_X ei) ∈ nn_TS ∧ (own, is, tx) ∈ nn_SS ∧ ∀ a ∈ Bundle.ownAtoms own ic (nn_X ei) nn_XN, a ∈ nn_TS ∨ a ∈ nn_NS ∨ a ∈ nn_ZS
section TH
variable {l : Launch} {y : MethodName} {cc : ByteArray} {nL : Nat} {ret : Option FieldType} {G : mm_G} {R : Room} {A : Nat → Prop} {Q : mm_O → mm_M → Prop} {mc ms pc : Nat} {lv : List (Nat × Value)} {st : List Value} {M : mm_M}
theorem th_zargs {args : Array Value} {U : State} : ∀ w ∈ nn_ZS, w.before #[] U = true → w.before args U = true := by
  intro w hw h
  simp only [nn_ZS, List.mem_cons, List.not_mem_nil, or_false] at hw
  rcases hw with rfl | rfl | rfl | rfl <;> exact h
theorem jj_throw {ix ic is ei : Nat} {tx : String} (hfl : l.flags = pinnedFlags ++ [noTraceFlag]) (hd0 : decode cc pc = .ok (.new ix, 3)) (hd3 : decode cc (pc + 3) = .ok (.dup, 1)) (hd4 : decode cc (pc + 4) = .ok (.ldc is, 2)) (hd6 : decode cc (pc + 6) = .ok (.invokespecial ic, 3)) (hd9 : decode cc (pc + 9) = .ok (.athrow, 1))
    (hcode : Cond.code y cc nL ret ∈ nn_TS) (ho : th_ok y.cls ix ic is ei tx) (h1 : 1 ≤ mc ∧ 6 ≤ ms) (hf : 5 < R.frames) (hlo : (st.map fun v => v.category).sum + 82 ≤ R.locals)
    (hq : ∀ a, mm_k M a = none → Q (.inr (a, ei)) M) : jj_ l y cc nL ret G R A Q mc ms pc lv st M := by
  obtain ⟨h4, hcl, hins, hini, hss, hat⟩ := ho
  intro p e s m args below meth c H locs cells slots ls hE hH hl hL hr T hT X
  obtain ⟨hx, hb, hml, hown, hts, hK, hret, hlk, hnm, hnd, hA⟩ := hE
  obtain ⟨hr1, hr2⟩ := hr
  subst hT
  have htr : e.platform.stackTraces = false := Launch.traces_off hfl X.admits
  have X' := rb_stand X (by omega) (by omega)
  obtain ⟨meth', c', hm', hc', -, -, -, -, hex, -⟩ := Cond.code_spec hnd (hts _ hcode)
  cases X.method.symm.trans hm'
  cases X.code.symm.trans hc'
  have hout : ∀ (pc' : Nat), ∀ x ∈ c.exceptionTable.toList, covers x pc' = false := by
    intro pc' x hx'
    have : c.exceptionTable.toList = [] := by simpa using hex
    rw [this] at hx'
    cases hx'
  have hts' : ∀ w ∈ nn_TS, w.before args (rb_s s T) = true := fun w hw => word_at (U := rb_s s T) (show s.WarmedH (rb_s s T).vm from State.WarmedH.refl s) (nn_good hw) (hts w hw)
  have hown' : (rb_s s T).vm.findClass y.cls = some m.cls := hown
  have hK' : mm_Kn G (rb_s s T) := mm_Kn.same (u := s) rfl hK
  have hat' : ∀ a ∈ Bundle.ownAtoms y.cls ic (nn_X ei) nn_XN, a.before args (rb_s s T) = true := by
    intro a ha
    rcases hat a ha with h | h | h
    · exact hts' a h
    · have h2 := hK'.2.1 a h
      have hi := (List.mem_filter.mp h).2
      have hon : a.onTables = true := by
        cases a <;> first | (simp [nn_isN] at hi; done) | rfl
      exact va_Nw.use hon h2
    · exact th_zargs a h (hK'.2.2.2.1 (rb_s s T) rfl hH.2.1 a h)
  obtain ⟨q, hq'⟩ := hK'.2.2.2.2.1 _ hss
  have key : W p l e (rb_R R cells slots) (rb_s s T) m args below meth c T.heap [] 0 0 (fun t => t.status = .running ∧ ∃ (ce : Cell), Ended t below (.threw T.heap.size) ∧ s.WarmedH t.vm ∧ (rb_s s T).sameButNew ({ t with vm := s.vm } : State) [] 1 6 ∧ t.heap[T.heap.size]? = some ce ∧ s.vm.findClass (nn_X ei) = some ce.cls ∧ ce.vm = .none) (F0 m pc ls st) := by
    refine W.newc hx hb hown' (hts' _ hcl) (hts' _ hins) (hts' _ hini) rfl hd0 (show 0 + 1 ≤ R.cells - cells by omega) (show 0 + 6 ≤ R.slots - slots by omega) fun cC kC k1 k2 k3 k4 => ?_
    refine lv_dup hx hb hd3 rfl ?_
    refine va_ldcS hx hb hown' hq' hd4 ?_
    intro T2 hT2 X2
    obtain ⟨U, g1, g2, g3, g4, g5, ce, g6, g7⟩ := X2.ctorThrowS hx htr hown' (th_fitX ei h4) th_fit hat' (fun x hx => by cases hx) (a := T.heap.size) (cX := cC) (kX := kC) k1 k2 (by rw [hT2]; simp) (Nat.le_refl _) (msg := .ref q) rfl (g := F0 m (pc + 3 + 1 + 2) ls (.ref q :: .ref T.heap.size :: .ref T.heap.size :: st)) rfl (hl.1.trans hml.symm) rfl rfl (rest := st) rfl (by rw [hb]; exact hd6) (by rw [hb]; exact hd9) (hout _) (show 2 + 3 < R.frames by omega) (show 2 * 0 + (1 + (st.map fun v => v.category).sum) + (13 * (2 + 1) + 42) ≤ R.locals by omega) hlk
    exact ⟨U, g1, g2, ce, g3, g4, g5, g6, g7.cls, g7.vm⟩
  obtain ⟨t, s1, g2, ce, g3, g4, g5, g6, g7, g8⟩ := key T rfl X'
  refine ⟨t, s1, .threw T.heap.size, g2, g3, ⟨.inr (T.heap.size, ei), M, ⟨rfl, hH.fresh (Nat.le_refl _), ce, g6, g7, g8⟩, hq _ (hH.fresh (Nat.le_refl _)), ?_, ?_, hL.2.1⟩, locs, ⟨g4, (rb_back X g5).mono (by omega) (by omega)⟩, hL.1⟩
  · exact ⟨fun a u ha => (hH.1 a u ha).kept (rb_keep g5 (hH.lt ha)), by rw [rb_keep g5 (Array.getElem?_eq_some_iff.mp hH.2.1).1]; exact hH.2.1, hH.2.2⟩
  · have z1 : T.heap.size ≤ t.heap.size := g5.2.1
    have z2 := hL.2.2
    omega
end TH
end
section
def cx_ (l : Launch) (y : MethodName) (cc : ByteArray) (nL : Nat) (ret : Option FieldType) (d mc ms : Nat) (vs : List Value) (M : mm_M) (Q : mm_O → mm_M → Prop) : Prop :=
  ∀ (G : mm_G) (sz : Nat), Free.MetFree l y (headSpec (.code y cc nL ret :: nn_TS) (mm_R d mc ms)) (mm_Pc G M sz vs) (fun _ _ _ _ _ => True)
    (fun a st o t => mm_Q G Q (mm_A M sz) a st o t ∧ ∃ L : List Loc, (st.WarmedH t.vm ∧ st.sameButNew ({ t with vm := st.vm } : State) L mc ms) ∧ ∀ q ∈ L, mm_A M sz q.base)
theorem cx_of {l : Launch} {y : MethodName} {cc : ByteArray} {nL : Nat} {ret : Option FieldType} {d mc ms : Nat} {vs : List Value} {M : mm_M} {Q : mm_O → mm_M → Prop} (hy : plainName y.cls = true) (hn : (lg_sl vs).length ≤ nL)
    (h : ∀ (G : mm_G) (A : Nat → Prop), jj_ l y cc nL ret G (mm_R d mc ms) A Q mc ms 0 (lv_args 0 vs) [] M) : cx_ l y cc nL ret d mc ms vs M Q := by
  intro G sz
  refine Free.MetFree.of_bodyS (code := cc) (maxLocals := nL) (ret := ret) hy ?_ ?_
  · intro args s m h2 hn2
    obtain ⟨meth, c, h1, h2, h3, h4, h5, h6, -, -⟩ := Cond.code_spec hn2 (atoms_spec (ws := .code y cc nL ret :: nn_TS) h2 _ List.mem_cons_self)
    exact ⟨meth, c, h1, h2, h3, h4, h5, h6⟩
  · intro p e s m args below meth c s₁ B hml hv _
    obtain ⟨rfl, hsz, hH, hK⟩ := hv
    subst hsz
    have hts := atoms_spec (ws := .code y cc nL ret :: nn_TS) B.pre
    have hh0 : s₁.heap = s.heap := by rw [B.state]; rfl
    have k := h G (mm_A M s.heap.size) p e s m vs.toArray below meth c s.heap [] 0 0 _
      ⟨B.exec, B.bytes, hml, findClass_of_methodNamed B.named, fun w hw => hts w (List.mem_cons_of_mem _ hw), hK, B.returns, B.notSynchronized, (name_of_methodNamed B.named B.method).1, B.named, fun q hq => Or.inr hq⟩
      hH (lv_entry vs hn) ⟨(fun q hq => by cases hq), (fun q hq => Or.inl hq), Nat.le_refl _⟩ ⟨Nat.le_of_eq (Nat.zero_add _), Nat.le_of_eq (Nat.zero_add _)⟩
    rw [← lg_entry_eq] at k
    obtain ⟨t, a1, o, b1, b2, b3, b4⟩ := k s₁ hh0 (Stand.of_body B)
    exact ⟨t, o, a1, b1, b2, b3, b4⟩
section BX
variable {p : Program} {l : Launch} {e : Env} {R : Room} {s : State} {m : MethodId} {args : Array Value} {below : List Frame} {meth : Method} {c : Code} {U : State} {Ls : List Loc} {c0 s0 : Nat}
theorem bx_call {z : MethodName} {S : Spec} {P : Array Value → State → Prop} {Qf : Array Value → State → Outcome → State → Prop} {bytes : ByteArray} {maxL W : Nat} {zret : Option FieldType} (hM : Free.MetFree l z S P (fun _ _ _ _ _ => True) Qf)
    (X : Stand p l e R s m args below meth c U Ls c0 s0) {g : JFrame} {ig : Instr} {len : Nat} {mk : MethodId} {a : Array Value} (hg : g.method = m) (hsize : g.locals.size = c.maxLocals) (hdg : decode c.code g.pc = .ok (ig, len)) (hW : 2 * g.monitorRoom + (g.stack.map fun v => v.category).sum ≤ W) (hn : U.methodNamed? z = some mk)
    (hframes : S.room.frames + 1 ≤ R.frames) (hlocals : W + (maxL + 11) + S.room.locals ≤ R.locals)
    (h1 : S.pre.before a U = true) (h2 : (Cond.code z bytes maxL zret).before a U = true) (h3 : (Cond.initialized z.cls).before a U = true) (h4 : c0 + S.room.cells ≤ R.cells) (h5 : s0 + S.room.slots ≤ R.slots) (hP : P a (U.calling g mk a)) :
    ∃ o s₂, Steps p.tables e below (doInvoke e (U.setTop g) [] mk a).1 s₂ ∧ Ended s₂ (U.setTop g).frames o ∧ Qf a (U.calling g mk a) o s₂ := by
  obtain ⟨methY, cY, hmY, hcY, -, hlY, -, -, -, -⟩ := Cond.code_spec hn h2
  obtain ⟨kY, hkY, -⟩ := className_of_methodNamed hn
  have hinitY : kY.init = .initialized := Cond.initialized_spec (findClass_of_methodNamed hn) hkY h3
  have h : At U g.method c below := by rw [hg]; exact X.here
  have happ : S.appliesLoose z e.platform (U.calling g mk a) = true :=
    Spec.appliesLoose_calling (g := g) h hdg hn hkY hinitY (X.room_calling (g := g) (R' := S.room) hsize hmY hcY hframes (by rw [hlY]; omega) h4 h5) h1
  obtain ⟨mid, hmid⟩ := h.above
  have hfr : (U.setTop g).frames = (.java g :: mid) ++ below := by rw [State.frames_setTop' g h.top, hmid]; rfl
  obtain ⟨o, s₂, hsteps, -, hend, hq⟩ := Free.Steps.callFree hM p X.admits X.cas X.clock (acts := []) hfr happ hP trivial
  exact ⟨o, s₂, hsteps, hend, hq⟩
theorem bx_stand (X : Stand p l e R s m args below meth c U Ls c0 s0) {g : JFrame} {mk : MethodId} {a : Array Value} {s₂ : State} {L : List Loc} {k n : Nat} (hW : (U.calling g mk a).WarmedH s₂.vm) (hs : (U.calling g mk a).sameButNew ({ s₂ with vm := (U.calling g mk a).vm } : State) L k n) :
    Stand p l e R s m args below meth c (({ U with heap := s₂.heap, slotsUsed := s₂.slotsUsed } : State).setVm s₂.vm) (Ls ++ L) (c0 + k) (s0 + n) := by
  obtain ⟨e2, q2, q3, q4, q5, q6⟩ := hs
  have hW' : U.WarmedH s₂.vm := hW
  obtain ⟨g₀, hg0⟩ := Option.isSome_iff_exists.mp X.here.top
  obtain ⟨r, hr⟩ := State.topJava?_eq_some.mp hg0
  have hsame : U.sameButNew ({ U with heap := s₂.heap, slotsUsed := s₂.slotsUsed } : State) L k n := by
    refine ⟨?_, q2, q3, q4, q5, q6⟩
    obtain ⟨t, ht, -⟩ := State.frames_cons hr
    show ({ U with heap := s₂.heap, slotsUsed := s₂.slotsUsed } : State) = { U.setFrames U.frames with heap := s₂.heap, slotsUsed := s₂.slotsUsed }
    rw [State.setFrames_self ht]
  exact ⟨X.admits, X.cas, X.clock, X.frames, X.room, X.hears, X.method, X.code, (X.here.setHeapUsed s₂.heap s₂.slotsUsed).setVm hW'.alike, X.tail, State.WarmedH.trans X.warmed hW', X.limits, X.bytes, X.same.trans (hsame.setVm s.vm)⟩
theorem bx_eq (X : Stand p l e R s m args below meth c U Ls c0 s0) {g : JFrame} {mk : MethodId} {a : Array Value} {s₂ : State} {L : List Loc} {k n : Nat} (hs : (U.calling g mk a).sameButNew ({ s₂ with vm := (U.calling g mk a).vm } : State) L k n) {fs : List Frame} (hf : s₂.frames = fs) :
    s₂ = (({ U with heap := s₂.heap, slotsUsed := s₂.slotsUsed } : State).setVm s₂.vm).setFrames fs := by
  have e2 := hs.1
  have e3 : s₂ = ({ (U.calling g mk a).setFrames s₂.frames with heap := s₂.heap, slotsUsed := s₂.slotsUsed } : State).setVm s₂.vm := by
    have : s₂ = ({ s₂ with vm := (U.calling g mk a).vm } : State).setVm s₂.vm := rfl
    rw [e2] at this
    exact this
  refine e3.trans ?_
  rw [hf, State.calling_eq X.here.top, State.setFrames_setFrames]
  rfl
theorem bx_ret (X : Stand p l e R s m args below meth c U Ls c0 s0) {g g2 : JFrame} {mk : MethodId} {a : Array Value} {s₂ : State} {L : List Loc} {k n : Nat} (hs : (U.calling g mk a).sameButNew ({ s₂ with vm := (U.calling g mk a).vm } : State) L k n) {r : List Frame} {g₀ : JFrame} (hr : U.frames = .java g₀ :: r) (hf : s₂.frames = .java g2 :: r) :
    s₂ = (({ U with heap := s₂.heap, slotsUsed := s₂.slotsUsed } : State).setVm s₂.vm).setTop g2 := by
  have hr' : (({ U with heap := s₂.heap, slotsUsed := s₂.slotsUsed } : State).setVm s₂.vm).frames = .java g₀ :: r := hr
  rw [State.setTop_of_frames _ hr']
  exact bx_eq X hs hf
theorem bx_thr (X : Stand p l e R s m args below meth c U Ls c0 s0) {g : JFrame} {mk : MethodId} {a : Array Value} {s₂ : State} {L : List Loc} {k n x : Nat} (hs : (U.calling g mk a).sameButNew ({ s₂ with vm := (U.calling g mk a).vm } : State) L k n) {r : List Frame} {g₀ : JFrame} (hr : U.frames = .java g₀ :: r) (hf : s₂.frames = .throwing x :: .java g :: r) :
    s₂ = ((({ U with heap := s₂.heap, slotsUsed := s₂.slotsUsed } : State).setVm s₂.vm).setTop g).pushFrame (.throwing x) := by
  have hr' : (({ U with heap := s₂.heap, slotsUsed := s₂.slotsUsed } : State).setVm s₂.vm).frames = .java g₀ :: r := hr
  rw [State.pushFrame, State.frames_setTop _ hr', State.setTop_of_frames _ hr', State.setFrames_setFrames]
  exact bx_eq X hs hf
end BX
section JX
variable {l : Launch} {y : MethodName} {cc : ByteArray} {nL : Nat} {ret : Option FieldType} {G : mm_G} {R : Room} {A : Nat → Prop} {Q : mm_O → mm_M → Prop} {mc ms pc : Nat} {lv : List (Nat × Value)} {st : List Value} {M : mm_M}
def mm_ei (QR : Option Value → mm_M → Prop) (QT : Nat × Nat → mm_M → Prop) : mm_O → mm_M → Prop := fun o M => match o with
  | .inl v => QR v M
  | .inr q => QT q M
theorem jj_callX {z : MethodName} {zc : ByteArray} {znL : Nat} {zret : Option FieldType} {d mc' ms' n idx b ci : Nat} (As rest : List Value) (mcr msr : Nat) (hd : decode cc pc = .ok (.invokevirtual idx, 3)) (hc : mm_Cs y.cls idx z zc znL zret n) (hlnk : Cond.methodLink y.cls idx z ∈ nn_TS) (hi : Cond.instanceMethod z ∈ nn_TS ∧ Cond.selects z.cls z z ∈ nn_TS)
    (hk : mm_k M b = some (.inl ci)) (h8 : ci < 8 ∧ nn_C ci = z.cls) (hn : As.length = n) (hcat : (rest.map fun v => v.category).sum ≤ 8) (hR : d + 1 ≤ R.frames ∧ 8 + (znL + 11) + 34 * d ≤ R.locals) (h12 : mc' + mcr ≤ mc ∧ ms' + msr ≤ ms) (hst : st = As.reverse ++ .ref b :: rest) (hcy : Cond.code y cc nL ret ∈ nn_TS)
    (hM : cx_ l z zc znL zret d mc' ms' (.ref b :: As) M (mm_ei (fun v M' => jj_ l y cc nL ret G R A Q mcr msr (pc + 3) lv (v.toList ++ rest) M') (fun q M' => Q (.inr q) M'))) : jj_ l y cc nL ret G R A Q mc ms pc lv st M := by
  subst hst
  obtain ⟨hcode, hini, hdd, -⟩ := hc
  obtain ⟨h8, hci⟩ := h8
  intro p e s m args below meth c H locs cells slots ls hE hH hl hL hr T hT X
  have hE0 := hE
  obtain ⟨hx, hb, hml, hown, hts, hK, hret, hlk, hnm, hnd, hA⟩ := hE
  obtain ⟨hr1, hr2⟩ := hr
  subst hT
  obtain ⟨meth', c', hm', hc', -, -, -, -, hex, -⟩ := Cond.code_spec hnd (hts _ hcy)
  cases X.method.symm.trans hm'
  cases X.code.symm.trans hc'
  have hout : ∀ (pc' : Nat), ∀ x ∈ c.exceptionTable.toList, covers x pc' = false := by
    intro pc' x hx'
    have : c.exceptionTable.toList = [] := by simpa using hex
    rw [this] at hx'
    cases hx'
  obtain ⟨cellB, hcell, hobj, hcls⟩ := va_recv (q0 := 0) (a := b) (fs := mm_fs M b ci) hK.1 (hH.get hk) (mm_cl_at h8) rfl
  dsimp only at hcls
  rw [hci] at hcls
  obtain ⟨mk, methM, hnamed, hmethM, hstM, habM⟩ := Cond.instanceMethod_spec (hts _ hi.1)
  obtain ⟨methM', cM, hmethM', -, -, -, -, -, -, hsigM⟩ := Cond.code_spec hnamed (hts _ hcode)
  cases hmethM.symm.trans hmethM'
  obtain ⟨c2, r2, m2, q1, q2, q3, q4, kP, hkP, hkPi⟩ := Cond.selects_spec (hts _ hi.2)
  cases hcls.symm.trans q1
  cases (State.methodFound?_of_named hnamed ⟨hdd.1, hdd.2.1⟩).symm.trans q2
  cases hnamed.symm.trans q3
  have hselP : selectMethod e.platform s.vm cellB.cls mk = .method mk := by rw [Launch.admits_selectMethod X.admits]; exact q4
  have hlen : As.length = methM.sig.parameters.length := by
    have h2 := hdd.2.2
    rw [hsigM] at h2
    rw [hn]
    exact (Option.some.inj h2).symm
  obtain ⟨vm₁, X₁, hstep₁⟩ := X.invokevirtual hx hown (hts _ hlnk) hnamed hmethM hstM hkP hkPi ⟨hdd.1, hdd.2.1⟩ (a := b) (cell := cellB) hcell
    (fun z h => by rw [h] at hobj; cases hobj) hselP hmethM habM hkP hkPi (g := F0 m pc ls (As.reverse ++ .ref b :: rest)) rfl (argsL := As) (rest := rest) hlen rfl (by rw [hb]; exact hd)
  have hP : mm_Pc G M T.heap.size (.ref b :: As) (Value.ref b :: As).toArray (T.setVm vm₁) := ((mm_pre hH hK).2 (T.setVm vm₁) rfl X₁.warmed)
  have hpre := pay_in hts (nn_GJ hcode)
  obtain ⟨o, s₂, hsteps, hend, ⟨oo, M', ho, hq, hH', hz, hw'⟩, L, ⟨hW2, hs2⟩, hL2⟩ := bx_call (bytes := zc) (maxL := znL) (W := 8) (zret := zret) (hM G T.heap.size) X₁ (g := F0 m pc ls rest) (ig := .invokevirtual idx) (len := 3) (mk := mk) (a := (Value.ref b :: As).toArray) rfl (hl.1.trans hml.symm) (by rw [hb]; exact hd) (lv_room hcat) (X₁.named hnamed)
    hR.1 hR.2 (atoms_intro fun w hw => hpre w hw _ _ X₁.warmed) (hpre _ List.mem_cons_self _ _ X₁.warmed) (word_at X₁.warmed (nn_good hini) (hts _ hini)) (show cells + mc' ≤ R.cells by omega) (show slots + ms' ≤ R.slots by omega) (mm_blind _ _ _ _ hP)
  have X₂ := bx_stand X₁ hW2 hs2
  obtain ⟨g₀, hg0⟩ := Option.isSome_iff_exists.mp X₁.here.top
  obtain ⟨r, hr⟩ := State.topJava?_eq_some.mp hg0
  have hAA : ∀ q, mm_A M T.heap.size q → A q := fun q hq => by
    rcases hq with h3 | h3
    · exact hL.2.1 q h3
    · exact hA q (Nat.le_trans hL.2.2 h3)
  have hLL : ∀ q ∈ locs ++ L, A q.base := fun q hq2 => by
    rcases List.mem_append.mp hq2 with h3 | h3
    · exact hL.1 q h3
    · exact hAA _ (hL2 q h3)
  rw [State.frames_setTop _ hr] at hend
  have hz' : T.heap.size ≤ s₂.heap.size := hz
  cases oo with
  | inl v =>
    have hv : o = .returned v := ho
    subst hv
    obtain ⟨cc2, i₂, len₂, hc₂, hd₂, hf₂⟩ := hend
    have hW' : (T.setVm vm₁).WarmedH s₂.vm := hW2
    have hcc : cc2 = c := by
      have h1 : s₂.code? m = (T.setVm vm₁).code? m := by
        rw [State.code?_eq, State.code?_eq, hW'.alike.method?]
      exact Option.some.inj (hc₂.symm.trans (h1.trans X₁.here.code))
    subst hcc
    have hlen2 : len₂ = 3 := by
      rw [hb, hd] at hd₂
      cases hd₂
      rfl
    subst hlen2
    have hs₂ := bx_ret X₁ hs2 hr hf₂
    obtain ⟨t2, a1, b1⟩ := hq p e s m args below meth cc2 s₂.heap (locs ++ L) (cells + mc') (slots + ms') ls hE0 hH' hl ⟨hLL, fun q hq2 => hAA q (hw' q hq2), Nat.le_trans hL.2.2 hz'⟩ ⟨by omega, by omega⟩ (({ T.setVm vm₁ with heap := s₂.heap, slotsUsed := s₂.slotsUsed } : State).setVm s₂.vm) rfl X₂
    refine ⟨t2, hstep₁ _ fun acts => ?_, b1⟩
    rw [doInvoke_state]
    refine hsteps.trans ?_
    rw [hs₂]
    exact a1
  | inr x =>
    obtain ⟨hv, hkn, ce, hce, hfc, hvm⟩ := ho
    subst hv
    have hs₂ := bx_thr X₁ hs2 hr hend
    obtain ⟨w1, w2, w3, w4, w5⟩ := X₂.leaveThrown x.1 (g := F0 m pc ls rest) rfl rfl rfl (hout _) hlk
    refine ⟨_, hstep₁ _ fun acts => ?_, .threw x.1, w2, w3, ⟨.inr x, M', ⟨rfl, hkn, ce, hce, ?_, hvm⟩, hq, hH', Nat.le_trans hL.2.2 hz', fun q hq2 => hAA q (hw' q hq2)⟩, locs ++ L, ⟨w4, w5.mono (by omega) (by omega)⟩, hLL⟩
    · rw [doInvoke_state]
      refine hsteps.trans ?_
      rw [hs₂]
      exact w1
    · rw [← X₁.warmed.alike.findClass]
      exact hfc
end JX
end
section
section FH
variable {E : CtlPost} {e : Env} {d : Bool} {acts : List Action} {s : State} {f : JFrame} {a : Addr} {Q : Handler → Pre}
theorem fh_cold {x : ExceptionTableEntry} {t : List ExceptionTableEntry} {c : ClassId} {cell : Cell} {vm' : Vm} (hx : covers x f.pc = true) (h0 : x.catchType ≠ 0) (hg : (Jvm.resolveClass f.method.cls x.catchType).Gives e.toSetting s.vm (.ok c) vm') (hsz : vm'.classes.size ≤ s.vm.classes.size)
    (hcell : s.heap[a]? = some cell) (hobj : ∀ k, cell.vm ≠ .statics k) (hk : ∃ k, vm'.classes[cell.cls]? = some k) (hc : ∃ k, vm'.classes[c]? = some k) :
    wp (findHandler.go f a (x :: t)) Q E e d acts s ↔ if vm'.assignable cell.cls c = true then Q (.found x.handlerPc) d acts (s.setVm vm') else wp (findHandler.go f a t) Q E e d acts (s.setVm vm') := by
  simp only [covers] at hx
  have hop : (VmOp.resolveClass f.method.cls x.catchType).answer e s.vm = .ok c ∧ (VmOp.resolveClass f.method.cls x.catchType).tables e s.vm = vm' := hg.op rfl
  have hl : (VmOp.resolveClass f.method.cls x.catchType).lands e s = .done (s.setVm vm') := by
    rw [VmOp.lands_same (by rw [hop.2]; exact hsz), hop.2]
  cases hfit : vm'.assignable cell.cls c <;>
    simp [findHandler.go, hx, h0, hop.1, hl, hcell, hobj, hk, hc, hfit, VmOp.dirties, VmOp.acts]
def ft_ (e : Env) (s : State) (f : JFrame) (a : Addr) (h : Handler) (s' : State) : Prop := ∀ (Q : Handler → Pre) (E : CtlPost) (d : Bool) (acts : List Action), wp (findHandler f a) Q E e d acts s ↔ Q h d acts s'
theorem ft_step {s' : State} {r : List Frame} {pc : Nat} (hfind : ft_ e s f a (.found pc) s') : (stepThrowing e s a (.java f :: r)).Is (s'.setFrames (.java { f with pc := pc, stack := [.ref a] } :: r)) [] := by
  simp only [stepThrowing, searchFrame, vmDo]
  generalize hr : Sem.go _ e false [] s = res
  obtain ⟨as, rfl, ha⟩ := Sem.eq_ok_of hr (a := Handler.found pc) (s' := s') (acts' := []) (by simp [hfind _ _ _ _])
  exact ⟨rfl, ha⟩
theorem ft_caught {tb : Tables} {below : List Frame} {c : Code} {T target : State} {g : JFrame} {pc : Nat} {vm' : Vm} (h : At T g.method c below) (hfind : ft_ e ((T.setTop g).pushFrame (.throwing a)) g a (.found pc) (((T.setTop g).pushFrame (.throwing a)).setVm vm'))
    (hrest : Steps tb e below ((T.setVm vm').setTop { g with pc := pc, stack := [.ref a] }) target) : Steps tb e below ((T.setTop g).pushFrame (.throwing a)) target := by
  obtain ⟨hgo, hw⟩ := h.throwing a
  refine Steps.head hgo hw ?_
  rw [stepThread_throwing (frames_entered h.top _), (ft_step (s := (T.setTop g).pushFrame (.throwing a)) hfind).1]
  obtain ⟨g₀, hg⟩ := Option.isSome_iff_exists.mp h.top
  obtain ⟨r, hr⟩ := State.topJava?_eq_some.mp hg
  have hr2 : (T.setVm vm').frames = .java g₀ :: r := hr
  rw [State.setTop_of_frames _ hr2] at hrest
  have e1 : (((T.setTop g).pushFrame (.throwing a)).setVm vm').setFrames (.java { g with pc := pc, stack := [.ref a] } :: r) = (T.setVm vm').setFrames (.java { g with pc := pc, stack := [.ref a] } :: r) := by
    have e2 : ((T.setTop g).pushFrame (.throwing a)).setFrames (.java { g with pc := pc, stack := [.ref a] } :: r) = T.setFrames (.java { g with pc := pc, stack := [.ref a] } :: r) := by
      rw [State.pushFrame, State.setFrames_setFrames, State.setTop_of_frames _ hr, State.setFrames_setFrames]
    exact congrArg (fun z : State => z.setVm vm') e2
  have e3 : T.frames.tail = r := by rw [hr]; rfl
  rw [e3, e1]
  exact hrest
end FH
def ft_ok (own : String) (pc : Nat) : List (Nat × Nat × Nat × Nat) → List Nat → Prop
  | x :: t, j :: js => (x.1 ≤ pc ∧ pc < x.2.1 ∧ x.2.2.2 ≠ 0 ∧ j < 4 ∧ Cond.classLink own x.2.2.2 (nn_X j) ∈ nn_TS) ∧ ft_ok own pc t js
  | [], [] => True
  | _, _ => False
def ft_h : List (Nat × Nat × Nat × Nat) → List Nat → Nat → Option Nat
  | x :: t, j :: js, ei => if j = ei then some x.2.2.1 else ft_h t js ei
  | _, _, _ => none
theorem ft_go {e : Env} {s : State} {args : Array Value} {f : JFrame} {a : Addr} {own : String} {ei hp : Nat} {cell : Cell} (hpl : e.platform.magicAccessors = ({} : Platform).magicAccessors) (hown : s.vm.findClass own = some f.method.cls) (hts : ∀ w ∈ nn_TS, w.before args s = true) (hN : mm_N s) (hei : ei < 4) (hobj : cell.vm = .none) (hfc : s.vm.findClass (nn_X ei) = some cell.cls) :
    ∀ (t : List ExceptionTableEntry) (js : List Nat) (U : State), ft_ok own f.pc (t.map (fun h => (h.startPc, h.endPc, h.handlerPc, h.catchType))) js → ft_h (t.map (fun h => (h.startPc, h.endPc, h.handlerPc, h.catchType))) js ei = some hp → s.WarmedH U.vm → U.heap[a]? = some cell →
      ∃ vm', s.WarmedH vm' ∧ ∀ (Q : Handler → Pre) (E : CtlPost) (d : Bool) (acts : List Action), wp (findHandler.go f a t) Q E e d acts U ↔ Q (.found hp) d acts (U.setVm vm') := by
  intro t
  induction t with
  | nil =>
    intro js U _ h2
    cases js <;> simp [ft_h] at h2
  | cons x t ih =>
    intro js U h1 h2 hW hcell
    cases js with
    | nil => exact h1.elim
    | cons j js =>
      obtain ⟨⟨c1, c2, c3, c4, c5⟩, c6⟩ := h1
      have hx : covers x f.pc = true := by
        simp only [covers, Bool.and_eq_true, decide_eq_true_eq]
        exact ⟨c1, c2⟩
      obtain ⟨c', hc', hcl⟩ := Cond.classLink_spec hown (hts _ c5) e.platform hpl
      obtain ⟨dk, _, _, kt, hd, _, _, _, _, hkt, _, hopen⟩ := hcl.here
      have hcl₀ := hW.classLinks hcl
      have hW' : s.WarmedH (U.vm.noted f.method.cls x.catchType (.cls c')) := hW.noted hd hopen (State.rightAt_cls hcl)
      obtain ⟨ks, hks, -⟩ := Vm.findClass_spec hfc
      obtain ⟨ks', hks', -⟩ := hW'.alike.2.2 _ _ hks
      obtain ⟨kt', hkt', -⟩ := hW'.alike.2.2 _ _ hkt
      have hsz : (U.vm.noted f.method.cls x.catchType (.cls c')).classes.size ≤ U.vm.classes.size := by rw [hW'.2.1, hW.2.1]; exact Nat.le_refl _
      have key := fun (Q : Handler → Pre) (E : CtlPost) (d : Bool) (acts : List Action) => fh_cold (E := E) (e := e) (d := d) (acts := acts) (s := U) (f := f) (a := a) (Q := Q) (x := x) (t := t) hx c3 (resolveClass_links e.toSetting hcl₀) hsz hcell (fun k h => by rw [hobj] at h; cases h) ⟨ks', hks'⟩ ⟨kt', hkt'⟩
      by_cases hj : j = ei
      · subst hj
        have hcc : c' = cell.cls := Option.some.inj (hc'.symm.trans hfc)
        have hhp : x.handlerPc = hp := by
          simp only [List.map_cons, ft_h, if_true] at h2
          exact Option.some.inj h2
        refine ⟨_, hW', fun Q E d acts => ?_⟩
        rw [key Q E d acts, hcc, if_pos (va_asg _ _), hhp]
      · have h2' : ft_h (t.map (fun h => (h.startPc, h.endPc, h.handlerPc, h.catchType))) js ei = some hp := by
          simp only [List.map_cons, ft_h, if_neg hj] at h2
          exact h2
        obtain ⟨n1, n2, n3, n4, n5⟩ := hN ei j hei c4 (fun z => hj z.symm)
        cases hfc.symm.trans n3
        cases hc'.symm.trans n4
        obtain ⟨vm2, w1, w2⟩ := ih js (U.setVm (U.vm.noted f.method.cls x.catchType (.cls c'))) c6 h2' hW' hcell
        refine ⟨vm2, w1, fun Q E d acts => ?_⟩
        rw [key Q E d acts, if_neg (by rw [hW'.alike.assignable, n5]; decide)]
        exact w2 Q E d acts
section JH
variable {l : Launch} {y : MethodName} {cc : ByteArray} {nL : Nat} {ret : Option FieldType} {G : mm_G} {R : Room} {A : Nat → Prop} {Q : mm_O → mm_M → Prop} {mc ms pc : Nat} {lv : List (Nat × Value)} {st : List Value} {M : mm_M}
theorem jj_callC {z : MethodName} {zc : ByteArray} {znL : Nat} {zret : Option FieldType} {d mc' ms' n idx b ci : Nat} {hh : List (Nat × Nat × Nat × Nat)} (js : List Nat) (As rest : List Value) (mcr msr : Nat) (hd : decode cc pc = .ok (.invokevirtual idx, 3)) (hc : mm_Cs y.cls idx z zc znL zret n) (hlnk : Cond.methodLink y.cls idx z ∈ nn_TS) (hi : Cond.instanceMethod z ∈ nn_TS ∧ Cond.selects z.cls z z ∈ nn_TS)
    (hk : mm_k M b = some (.inl ci)) (h8 : ci < 8 ∧ nn_C ci = z.cls) (hn : As.length = n) (hcat : (rest.map fun v => v.category).sum ≤ 8) (hR : d + 1 ≤ R.frames ∧ 8 + (znL + 11) + 34 * d ≤ R.locals) (h12 : mc' + mcr ≤ mc ∧ ms' + msr ≤ ms) (hst : st = As.reverse ++ .ref b :: rest) (hcy : Cond.codeWith y cc nL ret hh ∈ nn_TS) (hok : ft_ok y.cls pc hh js)
    (hM : cx_ l z zc znL zret d mc' ms' (.ref b :: As) M (mm_ei (fun v M' => jj_ l y cc nL ret G R A Q mcr msr (pc + 3) lv (v.toList ++ rest) M') (fun q M' => q.2 < 4 ∧ ∃ hp, ft_h hh js q.2 = some hp ∧ jj_ l y cc nL ret G R A Q mcr msr hp lv [.ref q.1] M'))) : jj_ l y cc nL ret G R A Q mc ms pc lv st M := by
  subst hst
  obtain ⟨hcode, hini, hdd, -⟩ := hc
  obtain ⟨h8, hci⟩ := h8
  intro p e s m args below meth c H locs cells slots ls hE hH hl hL hr T hT X
  have hE0 := hE
  obtain ⟨hx, hb, hml, hown, hts, hK, hret, hlk, hnm, hnd, hA⟩ := hE
  obtain ⟨hr1, hr2⟩ := hr
  subst hT
  have hpl : e.platform.magicAccessors = ({} : Platform).magicAccessors := by rw [X.admits.platform]
  obtain ⟨m9, meth', c', hm9, hm', hc', -, -, hex, -, -, -⟩ := Cond.codeWith_spec (hts _ hcy)
  cases hnd.symm.trans hm9
  cases X.method.symm.trans hm'
  cases X.code.symm.trans hc'
  obtain ⟨cellB, hcell, hobj, hcls⟩ := va_recv (q0 := 0) (a := b) (fs := mm_fs M b ci) hK.1 (hH.get hk) (mm_cl_at h8) rfl
  dsimp only at hcls
  rw [hci] at hcls
  obtain ⟨mk, methM, hnamed, hmethM, hstM, habM⟩ := Cond.instanceMethod_spec (hts _ hi.1)
  obtain ⟨methM', cM, hmethM', -, -, -, -, -, -, hsigM⟩ := Cond.code_spec hnamed (hts _ hcode)
  cases hmethM.symm.trans hmethM'
  obtain ⟨c2, r2, m2, q1, q2, q3, q4, kP, hkP, hkPi⟩ := Cond.selects_spec (hts _ hi.2)
  cases hcls.symm.trans q1
  cases (State.methodFound?_of_named hnamed ⟨hdd.1, hdd.2.1⟩).symm.trans q2
  cases hnamed.symm.trans q3
  have hselP : selectMethod e.platform s.vm cellB.cls mk = .method mk := by rw [Launch.admits_selectMethod X.admits]; exact q4
  have hlen : As.length = methM.sig.parameters.length := by
    have h2 := hdd.2.2
    rw [hsigM] at h2
    rw [hn]
    exact (Option.some.inj h2).symm
  obtain ⟨vm₁, X₁, hstep₁⟩ := X.invokevirtual hx hown (hts _ hlnk) hnamed hmethM hstM hkP hkPi ⟨hdd.1, hdd.2.1⟩ (a := b) (cell := cellB) hcell
    (fun z h => by rw [h] at hobj; cases hobj) hselP hmethM habM hkP hkPi (g := F0 m pc ls (As.reverse ++ .ref b :: rest)) rfl (argsL := As) (rest := rest) hlen rfl (by rw [hb]; exact hd)
  have hP : mm_Pc G M T.heap.size (.ref b :: As) (Value.ref b :: As).toArray (T.setVm vm₁) := ((mm_pre hH hK).2 (T.setVm vm₁) rfl X₁.warmed)
  have hpre := pay_in hts (nn_GJ hcode)
  obtain ⟨o, s₂, hsteps, hend, ⟨oo, M', ho, hq, hH', hz, hw'⟩, L, ⟨hW2, hs2⟩, hL2⟩ := bx_call (bytes := zc) (maxL := znL) (W := 8) (zret := zret) (hM G T.heap.size) X₁ (g := F0 m pc ls rest) (ig := .invokevirtual idx) (len := 3) (mk := mk) (a := (Value.ref b :: As).toArray) rfl (hl.1.trans hml.symm) (by rw [hb]; exact hd) (lv_room hcat) (X₁.named hnamed)
    hR.1 hR.2 (atoms_intro fun w hw => hpre w hw _ _ X₁.warmed) (hpre _ List.mem_cons_self _ _ X₁.warmed) (word_at X₁.warmed (nn_good hini) (hts _ hini)) (show cells + mc' ≤ R.cells by omega) (show slots + ms' ≤ R.slots by omega) (mm_blind _ _ _ _ hP)
  have X₂ := bx_stand X₁ hW2 hs2
  obtain ⟨g₀, hg0⟩ := Option.isSome_iff_exists.mp X₁.here.top
  obtain ⟨r, hr⟩ := State.topJava?_eq_some.mp hg0
  have hAA : ∀ q, mm_A M T.heap.size q → A q := fun q hq => by
    rcases hq with h3 | h3
    · exact hL.2.1 q h3
    · exact hA q (Nat.le_trans hL.2.2 h3)
  have hLL : ∀ q ∈ locs ++ L, A q.base := fun q hq2 => by
    rcases List.mem_append.mp hq2 with h3 | h3
    · exact hL.1 q h3
    · exact hAA _ (hL2 q h3)
  rw [State.frames_setTop _ hr] at hend
  have hz' : T.heap.size ≤ s₂.heap.size := hz
  cases oo with
  | inl v =>
    have hv : o = .returned v := ho
    subst hv
    obtain ⟨cc2, i₂, len₂, hc₂, hd₂, hf₂⟩ := hend
    have hW' : (T.setVm vm₁).WarmedH s₂.vm := hW2
    have hcc : cc2 = c := by
      have h1 : s₂.code? m = (T.setVm vm₁).code? m := by
        rw [State.code?_eq, State.code?_eq, hW'.alike.method?]
      exact Option.some.inj (hc₂.symm.trans (h1.trans X₁.here.code))
    subst hcc
    have hlen2 : len₂ = 3 := by
      rw [hb, hd] at hd₂
      cases hd₂
      rfl
    subst hlen2
    have hs₂ := bx_ret X₁ hs2 hr hf₂
    obtain ⟨t2, a1, b1⟩ := hq p e s m args below meth cc2 s₂.heap (locs ++ L) (cells + mc') (slots + ms') ls hE0 hH' hl ⟨hLL, fun q hq2 => hAA q (hw' q hq2), Nat.le_trans hL.2.2 hz'⟩ ⟨by omega, by omega⟩ (({ T.setVm vm₁ with heap := s₂.heap, slotsUsed := s₂.slotsUsed } : State).setVm s₂.vm) rfl X₂
    refine ⟨t2, hstep₁ _ fun acts => ?_, b1⟩
    rw [doInvoke_state]
    refine hsteps.trans ?_
    rw [hs₂]
    exact a1
  | inr x =>
    obtain ⟨hv, hkn, ce, hce, hfc, hvm⟩ := ho
    subst hv
    obtain ⟨h4, hp, hhp, hjj⟩ := hq
    have hs₂ := bx_thr X₁ hs2 hr hend
    have hfc' : s.vm.findClass (nn_X x.2) = some ce.cls := by
      rw [← X₁.warmed.alike.findClass]
      exact hfc
    have hU : ∀ z : State, z = ((({ T.setVm vm₁ with heap := s₂.heap, slotsUsed := s₂.slotsUsed } : State).setVm s₂.vm).setTop (F0 m pc ls rest)).pushFrame (.throwing x.1) → z.vm = s₂.vm ∧ z.heap = s₂.heap := by
      intro z hz
      rw [hz]
      exact ⟨Stand.throwing_vm _ _ _, Stand.throwing_heap _ _ _⟩
    obtain ⟨hU1, hU2⟩ := hU _ rfl
    obtain ⟨vm2, w1, w2⟩ := ft_go (e := e) (args := args) (f := F0 m pc ls rest) (a := x.1) (own := y.cls) (ei := x.2) (hp := hp) (cell := ce) hpl hown hts hK.2.2.2.2.2 h4 hvm hfc' c.exceptionTable.toList js (((({ T.setVm vm₁ with heap := s₂.heap, slotsUsed := s₂.slotsUsed } : State).setVm s₂.vm).setTop (F0 m pc ls rest)).pushFrame (.throwing x.1)) (by rw [hex]; exact hok) (by rw [hex]; exact hhp) (by rw [hU1]; exact X₂.warmed) (by rw [hU2]; exact hce)
    have hft : ft_ e (((({ T.setVm vm₁ with heap := s₂.heap, slotsUsed := s₂.slotsUsed } : State).setVm s₂.vm).setTop (F0 m pc ls rest)).pushFrame (.throwing x.1)) (F0 m pc ls rest) x.1 (.found hp) ((((({ T.setVm vm₁ with heap := s₂.heap, slotsUsed := s₂.slotsUsed } : State).setVm s₂.vm).setTop (F0 m pc ls rest)).pushFrame (.throwing x.1)).setVm vm2) := by
      intro Q E d acts
      rw [Jvm.W.findHandler_eq (meth := meth) (code := c) (by rw [hU1]; exact X₂.method') X.code]
      exact w2 Q E d acts
    have X₃ := X₂.noted w1
    obtain ⟨t2, a1, b1⟩ := hjj p e s m args below meth c s₂.heap (locs ++ L) (cells + mc') (slots + ms') ls hE0 hH' hl ⟨hLL, fun q hq2 => hAA q (hw' q hq2), Nat.le_trans hL.2.2 hz'⟩ ⟨by omega, by omega⟩ ((({ T.setVm vm₁ with heap := s₂.heap, slotsUsed := s₂.slotsUsed } : State).setVm s₂.vm).setVm vm2) rfl X₃
    refine ⟨t2, hstep₁ _ fun acts => ?_, b1⟩
    rw [doInvoke_state]
    refine hsteps.trans ?_
    rw [hs₂]
    exact ft_caught (g := F0 m pc ls rest) X₂.here hft a1
end JH
end
section
theorem dd_Mo_in_0 : decode bb_Mo_in 0 = .ok (.iload_n 0, 1) := by decide +kernel
theorem dd_Mo_in_1 : decode bb_Mo_in 1 = .ok (.iload_n 1, 1) := by decide +kernel
theorem dd_Mo_in_2 : decode bb_Mo_in 2 = .ok (.if_icmp .lt 12, 3) := by decide +kernel
theorem dd_Mo_in_5 : decode bb_Mo_in 5 = .ok (.iload_n 0, 1) := by decide +kernel
theorem dd_Mo_in_6 : decode bb_Mo_in 6 = .ok (.iload_n 2, 1) := by decide +kernel
theorem dd_Mo_in_7 : decode bb_Mo_in 7 = .ok (.if_icmp .gt 7, 3) := by decide +kernel
theorem dd_Mo_in_10 : decode bb_Mo_in 10 = .ok (.iconst 1, 1) := by decide +kernel
theorem dd_Mo_in_11 : decode bb_Mo_in 11 = .ok (.goto 4, 3) := by decide +kernel
theorem dd_Mo_in_14 : decode bb_Mo_in 14 = .ok (.iconst 0, 1) := by decide +kernel
theorem dd_Mo_in_15 : decode bb_Mo_in 15 = .ok (.ireturn, 1) := by decide +kernel
theorem dd_Mo_thrown_0 : decode bb_Mo_thrown 0 = .ok (.aload_n 0, 1) := by decide +kernel
theorem dd_Mo_thrown_1 : decode bb_Mo_thrown 1 = .ok (.getfield 93, 3) := by decide +kernel
theorem dd_Mo_thrown_4 : decode bb_Mo_thrown 4 = .ok (.ireturn, 1) := by decide +kernel
theorem dd_Mo_fails_0 : decode bb_Mo_fails 0 = .ok (.aload_n 0, 1) := by decide +kernel
theorem dd_Mo_fails_1 : decode bb_Mo_fails 1 = .ok (.iload_n 1, 1) := by decide +kernel
theorem dd_Mo_fails_2 : decode bb_Mo_fails 2 = .ok (.putfield 93, 3) := by decide +kernel
theorem dd_Mo_fails_5 : decode bb_Mo_fails 5 = .ok (.iconst 0, 1) := by decide +kernel
theorem dd_Mo_fails_6 : decode bb_Mo_fails 6 = .ok (.ireturn, 1) := by decide +kernel
theorem dd_Mo_handOut_0 : decode bb_Mo_handOut 0 = .ok (.aload_n 0, 1) := by decide +kernel
theorem dd_Mo_handOut_1 : decode bb_Mo_handOut 1 = .ok (.aload_n 0, 1) := by decide +kernel
theorem dd_Mo_handOut_2 : decode bb_Mo_handOut 2 = .ok (.getfield 7, 3) := by decide +kernel
theorem dd_Mo_handOut_5 : decode bb_Mo_handOut 5 = .ok (.aload_n 0, 1) := by decide +kernel
theorem dd_Mo_handOut_6 : decode bb_Mo_handOut 6 = .ok (.getfield 96, 3) := by decide +kernel
theorem dd_Mo_handOut_9 : decode bb_Mo_handOut 9 = .ok (.if_icmp .le 13, 3) := by decide +kernel
theorem dd_Mo_handOut_12 : decode bb_Mo_handOut 12 = .ok (.aload_n 0, 1) := by decide +kernel
theorem dd_Mo_handOut_13 : decode bb_Mo_handOut 13 = .ok (.getfield 7, 3) := by decide +kernel
theorem dd_Mo_handOut_16 : decode bb_Mo_handOut 16 = .ok (.bipush 7, 2) := by decide +kernel
theorem dd_Mo_handOut_18 : decode bb_Mo_handOut 18 = .ok (.iadd, 1) := by decide +kernel
theorem dd_Mo_handOut_19 : decode bb_Mo_handOut 19 = .ok (.goto 7, 3) := by decide +kernel
theorem dd_Mo_handOut_22 : decode bb_Mo_handOut 22 = .ok (.aload_n 0, 1) := by decide +kernel
theorem dd_Mo_handOut_23 : decode bb_Mo_handOut 23 = .ok (.getfield 96, 3) := by decide +kernel
theorem dd_Mo_handOut_26 : decode bb_Mo_handOut 26 = .ok (.putfield 96, 3) := by decide +kernel
theorem dd_Mo_handOut_29 : decode bb_Mo_handOut 29 = .ok (.aload_n 0, 1) := by decide +kernel
theorem dd_Mo_handOut_30 : decode bb_Mo_handOut 30 = .ok (.dup, 1) := by decide +kernel
theorem dd_Mo_handOut_31 : decode bb_Mo_handOut 31 = .ok (.getfield 7, 3) := by decide +kernel
theorem dd_Mo_handOut_34 : decode bb_Mo_handOut 34 = .ok (.iconst 1, 1) := by decide +kernel
theorem dd_Mo_handOut_35 : decode bb_Mo_handOut 35 = .ok (.iadd, 1) := by decide +kernel
theorem dd_Mo_handOut_36 : decode bb_Mo_handOut 36 = .ok (.putfield 7, 3) := by decide +kernel
theorem dd_Mo_handOut_39 : decode bb_Mo_handOut 39 = .ok (.aload_n 0, 1) := by decide +kernel
theorem dd_Mo_handOut_40 : decode bb_Mo_handOut 40 = .ok (.getfield 7, 3) := by decide +kernel
theorem dd_Mo_handOut_43 : decode bb_Mo_handOut 43 = .ok (.iconst 1, 1) := by decide +kernel
theorem dd_Mo_handOut_44 : decode bb_Mo_handOut 44 = .ok (.isub, 1) := by decide +kernel
theorem dd_Mo_handOut_45 : decode bb_Mo_handOut 45 = .ok (.ireturn, 1) := by decide +kernel
theorem dd_Mo_entry_0 : decode bb_Mo_entry 0 = .ok (.aload_n 0, 1) := by decide +kernel
theorem dd_Mo_entry_1 : decode bb_Mo_entry 1 = .ok (.getfield 54, 3) := by decide +kernel
theorem dd_Mo_entry_4 : decode bb_Mo_entry 4 = .ok (.iload_n 1, 1) := by decide +kernel
theorem dd_Mo_entry_5 : decode bb_Mo_entry 5 = .ok (.iaload, 1) := by decide +kernel
theorem dd_Mo_entry_6 : decode bb_Mo_entry 6 = .ok (.bipush 8, 2) := by decide +kernel
theorem dd_Mo_entry_8 : decode bb_Mo_entry 8 = .ok (.if_icmp .ne 10, 3) := by decide +kernel
theorem dd_Mo_entry_11 : decode bb_Mo_entry 11 = .ok (.aload_n 0, 1) := by decide +kernel
theorem dd_Mo_entry_12 : decode bb_Mo_entry 12 = .ok (.getfield 54, 3) := by decide +kernel
theorem dd_Mo_entry_15 : decode bb_Mo_entry 15 = .ok (.iload_n 1, 1) := by decide +kernel
theorem dd_Mo_entry_16 : decode bb_Mo_entry 16 = .ok (.iconst 0, 1) := by decide +kernel
theorem dd_Mo_entry_17 : decode bb_Mo_entry 17 = .ok (.iastore, 1) := by decide +kernel
theorem dd_Mo_entry_18 : decode bb_Mo_entry 18 = .ok (.aload_n 0, 1) := by decide +kernel
theorem dd_Mo_entry_19 : decode bb_Mo_entry 19 = .ok (.getfield 57, 3) := by decide +kernel
theorem dd_Mo_entry_22 : decode bb_Mo_entry 22 = .ok (.iload_n 1, 1) := by decide +kernel
theorem dd_Mo_entry_23 : decode bb_Mo_entry 23 = .ok (.dup2, 1) := by decide +kernel
theorem dd_Mo_entry_24 : decode bb_Mo_entry 24 = .ok (.iaload, 1) := by decide +kernel
theorem dd_Mo_entry_25 : decode bb_Mo_entry 25 = .ok (.iconst 1, 1) := by decide +kernel
theorem dd_Mo_entry_26 : decode bb_Mo_entry 26 = .ok (.iadd, 1) := by decide +kernel
theorem dd_Mo_entry_27 : decode bb_Mo_entry 27 = .ok (.iastore, 1) := by decide +kernel
theorem dd_Mo_entry_28 : decode bb_Mo_entry 28 = .ok (.aload_n 0, 1) := by decide +kernel
theorem dd_Mo_entry_29 : decode bb_Mo_entry 29 = .ok (.getfield 60, 3) := by decide +kernel
theorem dd_Mo_entry_32 : decode bb_Mo_entry 32 = .ok (.iload_n 1, 1) := by decide +kernel
theorem dd_Mo_entry_33 : decode bb_Mo_entry 33 = .ok (.aload_n 0, 1) := by decide +kernel
theorem dd_Mo_entry_34 : decode bb_Mo_entry 34 = .ok (.getfield 60, 3) := by decide +kernel
theorem dd_Mo_entry_37 : decode bb_Mo_entry 37 = .ok (.iload_n 1, 1) := by decide +kernel
theorem dd_Mo_entry_38 : decode bb_Mo_entry 38 = .ok (.iaload, 1) := by decide +kernel
theorem dd_Mo_entry_39 : decode bb_Mo_entry 39 = .ok (.ifCond .le 14, 3) := by decide +kernel
theorem dd_Mo_entry_42 : decode bb_Mo_entry 42 = .ok (.aload_n 0, 1) := by decide +kernel
theorem dd_Mo_entry_43 : decode bb_Mo_entry 43 = .ok (.getfield 60, 3) := by decide +kernel
theorem dd_Mo_entry_46 : decode bb_Mo_entry 46 = .ok (.iload_n 1, 1) := by decide +kernel
theorem dd_Mo_entry_47 : decode bb_Mo_entry 47 = .ok (.iaload, 1) := by decide +kernel
theorem dd_Mo_entry_48 : decode bb_Mo_entry 48 = .ok (.iconst 1, 1) := by decide +kernel
theorem dd_Mo_entry_49 : decode bb_Mo_entry 49 = .ok (.isub, 1) := by decide +kernel
theorem dd_Mo_entry_50 : decode bb_Mo_entry 50 = .ok (.goto 4, 3) := by decide +kernel
theorem dd_Mo_entry_53 : decode bb_Mo_entry 53 = .ok (.iconst (-1), 1) := by decide +kernel
theorem dd_Mo_entry_54 : decode bb_Mo_entry 54 = .ok (.iastore, 1) := by decide +kernel
theorem dd_Mo_entry_55 : decode bb_Mo_entry 55 = .ok (.aload_n 0, 1) := by decide +kernel
theorem dd_Mo_entry_56 : decode bb_Mo_entry 56 = .ok (.getfield 60, 3) := by decide +kernel
theorem dd_Mo_entry_59 : decode bb_Mo_entry 59 = .ok (.iload_n 1, 1) := by decide +kernel
theorem dd_Mo_entry_60 : decode bb_Mo_entry 60 = .ok (.iaload, 1) := by decide +kernel
theorem dd_Mo_entry_61 : decode bb_Mo_entry 61 = .ok (.ifCond .ne 7, 3) := by decide +kernel
theorem dd_Mo_entry_64 : decode bb_Mo_entry 64 = .ok (.iconst 1, 1) := by decide +kernel
theorem dd_Mo_entry_65 : decode bb_Mo_entry 65 = .ok (.goto 4, 3) := by decide +kernel
theorem dd_Mo_entry_68 : decode bb_Mo_entry 68 = .ok (.iconst 0, 1) := by decide +kernel
theorem dd_Mo_entry_69 : decode bb_Mo_entry 69 = .ok (.istore_n 2, 1) := by decide +kernel
theorem dd_Mo_entry_70 : decode bb_Mo_entry 70 = .ok (.aload_n 0, 1) := by decide +kernel
theorem dd_Mo_entry_71 : decode bb_Mo_entry 71 = .ok (.getfield 47, 3) := by decide +kernel
theorem dd_Mo_entry_74 : decode bb_Mo_entry 74 = .ok (.iload_n 1, 1) := by decide +kernel
theorem dd_Mo_entry_75 : decode bb_Mo_entry 75 = .ok (.aload_n 0, 1) := by decide +kernel
theorem dd_Mo_entry_76 : decode bb_Mo_entry 76 = .ok (.getfield 47, 3) := by decide +kernel
theorem dd_Mo_entry_79 : decode bb_Mo_entry 79 = .ok (.iload_n 1, 1) := by decide +kernel
theorem dd_Mo_entry_80 : decode bb_Mo_entry 80 = .ok (.baload, 1) := by decide +kernel
theorem dd_Mo_entry_81 : decode bb_Mo_entry 81 = .ok (.ifCond .ne 7, 3) := by decide +kernel
theorem dd_Mo_entry_84 : decode bb_Mo_entry 84 = .ok (.iload_n 2, 1) := by decide +kernel
theorem dd_Mo_entry_85 : decode bb_Mo_entry 85 = .ok (.ifCond .eq 7, 3) := by decide +kernel
theorem dd_Mo_entry_88 : decode bb_Mo_entry 88 = .ok (.iconst 1, 1) := by decide +kernel
theorem dd_Mo_entry_89 : decode bb_Mo_entry 89 = .ok (.goto 4, 3) := by decide +kernel
theorem dd_Mo_entry_92 : decode bb_Mo_entry 92 = .ok (.iconst 0, 1) := by decide +kernel
theorem dd_Mo_entry_93 : decode bb_Mo_entry 93 = .ok (.bastore, 1) := by decide +kernel
theorem dd_Mo_entry_94 : decode bb_Mo_entry 94 = .ok (.iload_n 2, 1) := by decide +kernel
theorem dd_Mo_entry_95 : decode bb_Mo_entry 95 = .ok (.ifCond .eq 12, 3) := by decide +kernel
theorem dd_Mo_entry_98 : decode bb_Mo_entry 98 = .ok (.aload_n 0, 1) := by decide +kernel
theorem dd_Mo_entry_99 : decode bb_Mo_entry 99 = .ok (.getfield 63, 3) := by decide +kernel
theorem dd_Mo_entry_102 : decode bb_Mo_entry 102 = .ok (.iload_n 1, 1) := by decide +kernel
theorem dd_Mo_entry_103 : decode bb_Mo_entry 103 = .ok (.baload, 1) := by decide +kernel
theorem dd_Mo_entry_104 : decode bb_Mo_entry 104 = .ok (.ifCond .eq 7, 3) := by decide +kernel
theorem dd_Mo_entry_107 : decode bb_Mo_entry 107 = .ok (.iconst 1, 1) := by decide +kernel
theorem dd_Mo_entry_108 : decode bb_Mo_entry 108 = .ok (.goto 4, 3) := by decide +kernel
theorem dd_Mo_entry_111 : decode bb_Mo_entry 111 = .ok (.iconst 0, 1) := by decide +kernel
theorem dd_Mo_entry_112 : decode bb_Mo_entry 112 = .ok (.istore_n 3, 1) := by decide +kernel
theorem dd_Mo_entry_113 : decode bb_Mo_entry 113 = .ok (.aload_n 0, 1) := by decide +kernel
theorem dd_Mo_entry_114 : decode bb_Mo_entry 114 = .ok (.getfield 54, 3) := by decide +kernel
theorem dd_Mo_entry_117 : decode bb_Mo_entry 117 = .ok (.iload_n 1, 1) := by decide +kernel
theorem dd_Mo_entry_118 : decode bb_Mo_entry 118 = .ok (.dup2, 1) := by decide +kernel
theorem dd_Mo_entry_119 : decode bb_Mo_entry 119 = .ok (.iaload, 1) := by decide +kernel
theorem dd_Mo_entry_120 : decode bb_Mo_entry 120 = .ok (.iload_n 3, 1) := by decide +kernel
theorem dd_Mo_entry_121 : decode bb_Mo_entry 121 = .ok (.ifCond .eq 7, 3) := by decide +kernel
theorem dd_Mo_entry_124 : decode bb_Mo_entry 124 = .ok (.iconst 1, 1) := by decide +kernel
theorem dd_Mo_entry_125 : decode bb_Mo_entry 125 = .ok (.goto 4, 3) := by decide +kernel
theorem dd_Mo_entry_128 : decode bb_Mo_entry 128 = .ok (.iconst 0, 1) := by decide +kernel
theorem dd_Mo_entry_129 : decode bb_Mo_entry 129 = .ok (.iadd, 1) := by decide +kernel
theorem dd_Mo_entry_130 : decode bb_Mo_entry 130 = .ok (.iastore, 1) := by decide +kernel
theorem dd_Mo_entry_131 : decode bb_Mo_entry 131 = .ok (.iload_n 3, 1) := by decide +kernel
theorem dd_Mo_entry_132 : decode bb_Mo_entry 132 = .ok (.ireturn, 1) := by decide +kernel
theorem dd_Mo_put_0 : decode bb_Mo_put 0 = .ok (.aload_n 0, 1) := by decide +kernel
theorem dd_Mo_put_1 : decode bb_Mo_put 1 = .ok (.getfield 32, 3) := by decide +kernel
theorem dd_Mo_put_4 : decode bb_Mo_put 4 = .ok (.aload_n 0, 1) := by decide +kernel
theorem dd_Mo_put_5 : decode bb_Mo_put 5 = .ok (.getfield 99, 3) := by decide +kernel
theorem dd_Mo_put_8 : decode bb_Mo_put 8 = .ok (.iload_n 1, 1) := by decide +kernel
theorem dd_Mo_put_9 : decode bb_Mo_put 9 = .ok (.iastore, 1) := by decide +kernel
theorem dd_Mo_put_10 : decode bb_Mo_put 10 = .ok (.aload_n 0, 1) := by decide +kernel
theorem dd_Mo_put_11 : decode bb_Mo_put 11 = .ok (.getfield 35, 3) := by decide +kernel
theorem dd_Mo_put_14 : decode bb_Mo_put 14 = .ok (.aload_n 0, 1) := by decide +kernel
theorem dd_Mo_put_15 : decode bb_Mo_put 15 = .ok (.getfield 99, 3) := by decide +kernel
theorem dd_Mo_put_18 : decode bb_Mo_put 18 = .ok (.iload_n 2, 1) := by decide +kernel
theorem dd_Mo_put_19 : decode bb_Mo_put 19 = .ok (.iastore, 1) := by decide +kernel
theorem dd_Mo_put_20 : decode bb_Mo_put 20 = .ok (.aload_n 0, 1) := by decide +kernel
theorem dd_Mo_put_21 : decode bb_Mo_put 21 = .ok (.getfield 38, 3) := by decide +kernel
theorem dd_Mo_put_24 : decode bb_Mo_put 24 = .ok (.aload_n 0, 1) := by decide +kernel
theorem dd_Mo_put_25 : decode bb_Mo_put 25 = .ok (.getfield 99, 3) := by decide +kernel
theorem dd_Mo_put_28 : decode bb_Mo_put 28 = .ok (.iload_n 3, 1) := by decide +kernel
theorem dd_Mo_put_29 : decode bb_Mo_put 29 = .ok (.iastore, 1) := by decide +kernel
theorem dd_Mo_put_30 : decode bb_Mo_put 30 = .ok (.aload_n 0, 1) := by decide +kernel
theorem dd_Mo_put_31 : decode bb_Mo_put 31 = .ok (.getfield 41, 3) := by decide +kernel
theorem dd_Mo_put_34 : decode bb_Mo_put 34 = .ok (.aload_n 0, 1) := by decide +kernel
theorem dd_Mo_put_35 : decode bb_Mo_put 35 = .ok (.getfield 99, 3) := by decide +kernel
theorem dd_Mo_put_38 : decode bb_Mo_put 38 = .ok (.iload 4, 2) := by decide +kernel
theorem dd_Mo_put_40 : decode bb_Mo_put 40 = .ok (.iastore, 1) := by decide +kernel
theorem dd_Mo_put_41 : decode bb_Mo_put 41 = .ok (.aload_n 0, 1) := by decide +kernel
theorem dd_Mo_put_42 : decode bb_Mo_put 42 = .ok (.getfield 44, 3) := by decide +kernel
theorem dd_Mo_put_45 : decode bb_Mo_put 45 = .ok (.aload_n 0, 1) := by decide +kernel
theorem dd_Mo_put_46 : decode bb_Mo_put 46 = .ok (.getfield 99, 3) := by decide +kernel
theorem dd_Mo_put_49 : decode bb_Mo_put 49 = .ok (.iload 5, 2) := by decide +kernel
theorem dd_Mo_put_51 : decode bb_Mo_put 51 = .ok (.iastore, 1) := by decide +kernel
theorem dd_Mo_put_52 : decode bb_Mo_put 52 = .ok (.aload_n 0, 1) := by decide +kernel
theorem dd_Mo_put_53 : decode bb_Mo_put 53 = .ok (.dup, 1) := by decide +kernel
theorem dd_Mo_put_54 : decode bb_Mo_put 54 = .ok (.getfield 99, 3) := by decide +kernel
theorem dd_Mo_put_57 : decode bb_Mo_put 57 = .ok (.iconst 1, 1) := by decide +kernel
theorem dd_Mo_put_58 : decode bb_Mo_put 58 = .ok (.iadd, 1) := by decide +kernel
theorem dd_Mo_put_59 : decode bb_Mo_put 59 = .ok (.putfield 99, 3) := by decide +kernel
theorem dd_Mo_put_62 : decode bb_Mo_put 62 = .ok (.return_, 1) := by decide +kernel
theorem dd_Mo_done_0 : decode bb_Mo_done 0 = .ok (.aload_n 0, 1) := by decide +kernel
theorem dd_Mo_done_1 : decode bb_Mo_done 1 = .ok (.iload_n 1, 1) := by decide +kernel
theorem dd_Mo_done_2 : decode bb_Mo_done 2 = .ok (.iconst 4, 1) := by decide +kernel
theorem dd_Mo_done_3 : decode bb_Mo_done 3 = .ok (.idiv, 1) := by decide +kernel
theorem dd_Mo_done_4 : decode bb_Mo_done 4 = .ok (.invokevirtual 102, 3) := by decide +kernel
theorem dd_Mo_done_7 : decode bb_Mo_done 7 = .ok (.istore_n 3, 1) := by decide +kernel
theorem dd_Mo_done_8 : decode bb_Mo_done 8 = .ok (.iload_n 3, 1) := by decide +kernel
theorem dd_Mo_done_9 : decode bb_Mo_done 9 = .ok (.ifCond .eq 34, 3) := by decide +kernel
theorem dd_Mo_done_12 : decode bb_Mo_done 12 = .ok (.aload_n 0, 1) := by decide +kernel
theorem dd_Mo_done_13 : decode bb_Mo_done 13 = .ok (.iload_n 1, 1) := by decide +kernel
theorem dd_Mo_done_14 : decode bb_Mo_done 14 = .ok (.iload_n 2, 1) := by decide +kernel
theorem dd_Mo_done_15 : decode bb_Mo_done 15 = .ok (.aload_n 0, 1) := by decide +kernel
theorem dd_Mo_done_16 : decode bb_Mo_done 16 = .ok (.getfield 13, 3) := by decide +kernel
theorem dd_Mo_done_19 : decode bb_Mo_done 19 = .ok (.iload_n 1, 1) := by decide +kernel
theorem dd_Mo_done_20 : decode bb_Mo_done 20 = .ok (.iaload, 1) := by decide +kernel
theorem dd_Mo_done_21 : decode bb_Mo_done 21 = .ok (.aload_n 0, 1) := by decide +kernel
theorem dd_Mo_done_22 : decode bb_Mo_done 22 = .ok (.getfield 26, 3) := by decide +kernel
theorem dd_Mo_done_25 : decode bb_Mo_done 25 = .ok (.iload_n 1, 1) := by decide +kernel
theorem dd_Mo_done_26 : decode bb_Mo_done 26 = .ok (.iaload, 1) := by decide +kernel
theorem dd_Mo_done_27 : decode bb_Mo_done 27 = .ok (.aload_n 0, 1) := by decide +kernel
theorem dd_Mo_done_28 : decode bb_Mo_done 28 = .ok (.getfield 29, 3) := by decide +kernel
theorem dd_Mo_done_31 : decode bb_Mo_done 31 = .ok (.iload_n 1, 1) := by decide +kernel
theorem dd_Mo_done_32 : decode bb_Mo_done 32 = .ok (.iaload, 1) := by decide +kernel
theorem dd_Mo_done_33 : decode bb_Mo_done 33 = .ok (.invokevirtual 106, 3) := by decide +kernel
theorem dd_Mo_done_36 : decode bb_Mo_done 36 = .ok (.aload_n 0, 1) := by decide +kernel
theorem dd_Mo_done_37 : decode bb_Mo_done 37 = .ok (.getfield 13, 3) := by decide +kernel
theorem dd_Mo_done_40 : decode bb_Mo_done 40 = .ok (.iload_n 1, 1) := by decide +kernel
theorem dd_Mo_done_41 : decode bb_Mo_done 41 = .ok (.iconst 0, 1) := by decide +kernel
theorem dd_Mo_done_42 : decode bb_Mo_done 42 = .ok (.iastore, 1) := by decide +kernel
theorem dd_Mo_done_43 : decode bb_Mo_done 43 = .ok (.aload_n 0, 1) := by decide +kernel
theorem dd_Mo_done_44 : decode bb_Mo_done 44 = .ok (.getfield 47, 3) := by decide +kernel
theorem dd_Mo_done_47 : decode bb_Mo_done 47 = .ok (.iload_n 1, 1) := by decide +kernel
theorem dd_Mo_done_48 : decode bb_Mo_done 48 = .ok (.iconst 4, 1) := by decide +kernel
theorem dd_Mo_done_49 : decode bb_Mo_done 49 = .ok (.idiv, 1) := by decide +kernel
theorem dd_Mo_done_50 : decode bb_Mo_done 50 = .ok (.baload, 1) := by decide +kernel
theorem dd_Mo_done_51 : decode bb_Mo_done 51 = .ok (.ifCond .ne 7, 3) := by decide +kernel
theorem dd_Mo_done_54 : decode bb_Mo_done 54 = .ok (.iconst 1, 1) := by decide +kernel
theorem dd_Mo_done_55 : decode bb_Mo_done 55 = .ok (.goto 4, 3) := by decide +kernel
theorem dd_Mo_done_58 : decode bb_Mo_done 58 = .ok (.iconst 0, 1) := by decide +kernel
theorem dd_Mo_done_59 : decode bb_Mo_done 59 = .ok (.ireturn, 1) := by decide +kernel
theorem dd_Mo_voids_0 : decode bb_Mo_voids 0 = .ok (.aload_n 0, 1) := by decide +kernel
theorem dd_Mo_voids_1 : decode bb_Mo_voids 1 = .ok (.iload_n 1, 1) := by decide +kernel
theorem dd_Mo_voids_2 : decode bb_Mo_voids 2 = .ok (.iconst 4, 1) := by decide +kernel
theorem dd_Mo_voids_3 : decode bb_Mo_voids 3 = .ok (.idiv, 1) := by decide +kernel
theorem dd_Mo_voids_4 : decode bb_Mo_voids 4 = .ok (.invokevirtual 102, 3) := by decide +kernel
theorem dd_Mo_voids_7 : decode bb_Mo_voids 7 = .ok (.istore_n 3, 1) := by decide +kernel
theorem dd_Mo_voids_8 : decode bb_Mo_voids 8 = .ok (.iload_n 3, 1) := by decide +kernel
theorem dd_Mo_voids_9 : decode bb_Mo_voids 9 = .ok (.ifCond .eq 38, 3) := by decide +kernel
theorem dd_Mo_voids_12 : decode bb_Mo_voids 12 = .ok (.aload_n 0, 1) := by decide +kernel
theorem dd_Mo_voids_13 : decode bb_Mo_voids 13 = .ok (.iload_n 1, 1) := by decide +kernel
theorem dd_Mo_voids_14 : decode bb_Mo_voids 14 = .ok (.iload_n 2, 1) := by decide +kernel
theorem dd_Mo_voids_15 : decode bb_Mo_voids 15 = .ok (.iload_n 2, 1) := by decide +kernel
theorem dd_Mo_voids_16 : decode bb_Mo_voids 16 = .ok (.iconst 3, 1) := by decide +kernel
theorem dd_Mo_voids_17 : decode bb_Mo_voids 17 = .ok (.iconst 0, 1) := by decide +kernel
theorem dd_Mo_voids_18 : decode bb_Mo_voids 18 = .ok (.invokevirtual 106, 3) := by decide +kernel
theorem dd_Mo_voids_21 : decode bb_Mo_voids 21 = .ok (.aload_n 0, 1) := by decide +kernel
theorem dd_Mo_voids_22 : decode bb_Mo_voids 22 = .ok (.getfield 13, 3) := by decide +kernel
theorem dd_Mo_voids_25 : decode bb_Mo_voids 25 = .ok (.iload_n 1, 1) := by decide +kernel
theorem dd_Mo_voids_26 : decode bb_Mo_voids 26 = .ok (.aload_n 0, 1) := by decide +kernel
theorem dd_Mo_voids_27 : decode bb_Mo_voids 27 = .ok (.getfield 13, 3) := by decide +kernel
theorem dd_Mo_voids_30 : decode bb_Mo_voids 30 = .ok (.iload_n 1, 1) := by decide +kernel
theorem dd_Mo_voids_31 : decode bb_Mo_voids 31 = .ok (.iaload, 1) := by decide +kernel
theorem dd_Mo_voids_32 : decode bb_Mo_voids 32 = .ok (.iload_n 2, 1) := by decide +kernel
theorem dd_Mo_voids_33 : decode bb_Mo_voids 33 = .ok (.if_icmp .ne 7, 3) := by decide +kernel
theorem dd_Mo_voids_36 : decode bb_Mo_voids 36 = .ok (.iconst 0, 1) := by decide +kernel
theorem dd_Mo_voids_37 : decode bb_Mo_voids 37 = .ok (.goto 9, 3) := by decide +kernel
theorem dd_Mo_voids_40 : decode bb_Mo_voids 40 = .ok (.aload_n 0, 1) := by decide +kernel
theorem dd_Mo_voids_41 : decode bb_Mo_voids 41 = .ok (.getfield 13, 3) := by decide +kernel
theorem dd_Mo_voids_44 : decode bb_Mo_voids 44 = .ok (.iload_n 1, 1) := by decide +kernel
theorem dd_Mo_voids_45 : decode bb_Mo_voids 45 = .ok (.iaload, 1) := by decide +kernel
theorem dd_Mo_voids_46 : decode bb_Mo_voids 46 = .ok (.iastore, 1) := by decide +kernel
theorem dd_Mo_voids_47 : decode bb_Mo_voids 47 = .ok (.aload_n 0, 1) := by decide +kernel
theorem dd_Mo_voids_48 : decode bb_Mo_voids 48 = .ok (.getfield 47, 3) := by decide +kernel
theorem dd_Mo_voids_51 : decode bb_Mo_voids 51 = .ok (.iload_n 1, 1) := by decide +kernel
theorem dd_Mo_voids_52 : decode bb_Mo_voids 52 = .ok (.iconst 4, 1) := by decide +kernel
theorem dd_Mo_voids_53 : decode bb_Mo_voids 53 = .ok (.idiv, 1) := by decide +kernel
theorem dd_Mo_voids_54 : decode bb_Mo_voids 54 = .ok (.baload, 1) := by decide +kernel
theorem dd_Mo_voids_55 : decode bb_Mo_voids 55 = .ok (.ifCond .ne 7, 3) := by decide +kernel
theorem dd_Mo_voids_58 : decode bb_Mo_voids 58 = .ok (.iconst 1, 1) := by decide +kernel
theorem dd_Mo_voids_59 : decode bb_Mo_voids 59 = .ok (.goto 4, 3) := by decide +kernel
theorem dd_Mo_voids_62 : decode bb_Mo_voids 62 = .ok (.iconst 0, 1) := by decide +kernel
theorem dd_Mo_voids_63 : decode bb_Mo_voids 63 = .ok (.ireturn, 1) := by decide +kernel
theorem dd_Mo_locks_0 : decode bb_Mo_locks 0 = .ok (.aload_n 0, 1) := by decide +kernel
theorem dd_Mo_locks_1 : decode bb_Mo_locks 1 = .ok (.iload_n 2, 1) := by decide +kernel
theorem dd_Mo_locks_2 : decode bb_Mo_locks 2 = .ok (.iconst 4, 1) := by decide +kernel
theorem dd_Mo_locks_3 : decode bb_Mo_locks 3 = .ok (.idiv, 1) := by decide +kernel
theorem dd_Mo_locks_4 : decode bb_Mo_locks 4 = .ok (.invokevirtual 102, 3) := by decide +kernel
theorem dd_Mo_locks_7 : decode bb_Mo_locks 7 = .ok (.istore 4, 2) := by decide +kernel
theorem dd_Mo_locks_9 : decode bb_Mo_locks 9 = .ok (.iload 4, 2) := by decide +kernel
theorem dd_Mo_locks_11 : decode bb_Mo_locks 11 = .ok (.ifCond .eq 73, 3) := by decide +kernel
theorem dd_Mo_locks_14 : decode bb_Mo_locks 14 = .ok (.aload_n 0, 1) := by decide +kernel
theorem dd_Mo_locks_15 : decode bb_Mo_locks 15 = .ok (.getfield 13, 3) := by decide +kernel
theorem dd_Mo_locks_18 : decode bb_Mo_locks 18 = .ok (.iload_n 2, 1) := by decide +kernel
theorem dd_Mo_locks_19 : decode bb_Mo_locks 19 = .ok (.aload_n 0, 1) := by decide +kernel
theorem dd_Mo_locks_20 : decode bb_Mo_locks 20 = .ok (.getfield 69, 3) := by decide +kernel
theorem dd_Mo_locks_23 : decode bb_Mo_locks 23 = .ok (.iload_n 1, 1) := by decide +kernel
theorem dd_Mo_locks_24 : decode bb_Mo_locks 24 = .ok (.iaload, 1) := by decide +kernel
theorem dd_Mo_locks_25 : decode bb_Mo_locks 25 = .ok (.iastore, 1) := by decide +kernel
theorem dd_Mo_locks_26 : decode bb_Mo_locks 26 = .ok (.aload_n 0, 1) := by decide +kernel
theorem dd_Mo_locks_27 : decode bb_Mo_locks 27 = .ok (.getfield 17, 3) := by decide +kernel
theorem dd_Mo_locks_30 : decode bb_Mo_locks 30 = .ok (.iload_n 2, 1) := by decide +kernel
theorem dd_Mo_locks_31 : decode bb_Mo_locks 31 = .ok (.iload_n 3, 1) := by decide +kernel
theorem dd_Mo_locks_32 : decode bb_Mo_locks 32 = .ok (.iastore, 1) := by decide +kernel
theorem dd_Mo_locks_33 : decode bb_Mo_locks 33 = .ok (.aload_n 0, 1) := by decide +kernel
theorem dd_Mo_locks_34 : decode bb_Mo_locks 34 = .ok (.getfield 20, 3) := by decide +kernel
theorem dd_Mo_locks_37 : decode bb_Mo_locks 37 = .ok (.iload_n 2, 1) := by decide +kernel
theorem dd_Mo_locks_38 : decode bb_Mo_locks 38 = .ok (.iload_n 1, 1) := by decide +kernel
theorem dd_Mo_locks_39 : decode bb_Mo_locks 39 = .ok (.iastore, 1) := by decide +kernel
theorem dd_Mo_locks_40 : decode bb_Mo_locks 40 = .ok (.aload_n 0, 1) := by decide +kernel
theorem dd_Mo_locks_41 : decode bb_Mo_locks 41 = .ok (.getfield 23, 3) := by decide +kernel
theorem dd_Mo_locks_44 : decode bb_Mo_locks 44 = .ok (.iload_n 2, 1) := by decide +kernel
theorem dd_Mo_locks_45 : decode bb_Mo_locks 45 = .ok (.aload_n 0, 1) := by decide +kernel
theorem dd_Mo_locks_46 : decode bb_Mo_locks 46 = .ok (.getfield 110, 3) := by decide +kernel
theorem dd_Mo_locks_49 : decode bb_Mo_locks 49 = .ok (.iastore, 1) := by decide +kernel
theorem dd_Mo_locks_50 : decode bb_Mo_locks 50 = .ok (.aload_n 0, 1) := by decide +kernel
theorem dd_Mo_locks_51 : decode bb_Mo_locks 51 = .ok (.getfield 26, 3) := by decide +kernel
theorem dd_Mo_locks_54 : decode bb_Mo_locks 54 = .ok (.iload_n 2, 1) := by decide +kernel
theorem dd_Mo_locks_55 : decode bb_Mo_locks 55 = .ok (.aload_n 0, 1) := by decide +kernel
theorem dd_Mo_locks_56 : decode bb_Mo_locks 56 = .ok (.getfield 78, 3) := by decide +kernel
theorem dd_Mo_locks_59 : decode bb_Mo_locks 59 = .ok (.bipush 12, 2) := by decide +kernel
theorem dd_Mo_locks_61 : decode bb_Mo_locks 61 = .ok (.iload_n 1, 1) := by decide +kernel
theorem dd_Mo_locks_62 : decode bb_Mo_locks 62 = .ok (.imul, 1) := by decide +kernel
theorem dd_Mo_locks_63 : decode bb_Mo_locks 63 = .ok (.iload_n 2, 1) := by decide +kernel
theorem dd_Mo_locks_64 : decode bb_Mo_locks 64 = .ok (.iadd, 1) := by decide +kernel
theorem dd_Mo_locks_65 : decode bb_Mo_locks 65 = .ok (.iaload, 1) := by decide +kernel
theorem dd_Mo_locks_66 : decode bb_Mo_locks 66 = .ok (.iastore, 1) := by decide +kernel
theorem dd_Mo_locks_67 : decode bb_Mo_locks 67 = .ok (.aload_n 0, 1) := by decide +kernel
theorem dd_Mo_locks_68 : decode bb_Mo_locks 68 = .ok (.getfield 29, 3) := by decide +kernel
theorem dd_Mo_locks_71 : decode bb_Mo_locks 71 = .ok (.iload_n 2, 1) := by decide +kernel
theorem dd_Mo_locks_72 : decode bb_Mo_locks 72 = .ok (.aload_n 0, 1) := by decide +kernel
theorem dd_Mo_locks_73 : decode bb_Mo_locks 73 = .ok (.getfield 81, 3) := by decide +kernel
theorem dd_Mo_locks_76 : decode bb_Mo_locks 76 = .ok (.bipush 12, 2) := by decide +kernel
theorem dd_Mo_locks_78 : decode bb_Mo_locks 78 = .ok (.iload_n 1, 1) := by decide +kernel
theorem dd_Mo_locks_79 : decode bb_Mo_locks 79 = .ok (.imul, 1) := by decide +kernel
theorem dd_Mo_locks_80 : decode bb_Mo_locks 80 = .ok (.iload_n 2, 1) := by decide +kernel
theorem dd_Mo_locks_81 : decode bb_Mo_locks 81 = .ok (.iadd, 1) := by decide +kernel
theorem dd_Mo_locks_82 : decode bb_Mo_locks 82 = .ok (.iaload, 1) := by decide +kernel
theorem dd_Mo_locks_83 : decode bb_Mo_locks 83 = .ok (.iastore, 1) := by decide +kernel
theorem dd_Mo_locks_84 : decode bb_Mo_locks 84 = .ok (.aload_n 0, 1) := by decide +kernel
theorem dd_Mo_locks_85 : decode bb_Mo_locks 85 = .ok (.getfield 47, 3) := by decide +kernel
theorem dd_Mo_locks_88 : decode bb_Mo_locks 88 = .ok (.iload_n 2, 1) := by decide +kernel
theorem dd_Mo_locks_89 : decode bb_Mo_locks 89 = .ok (.iconst 4, 1) := by decide +kernel
theorem dd_Mo_locks_90 : decode bb_Mo_locks 90 = .ok (.idiv, 1) := by decide +kernel
theorem dd_Mo_locks_91 : decode bb_Mo_locks 91 = .ok (.baload, 1) := by decide +kernel
theorem dd_Mo_locks_92 : decode bb_Mo_locks 92 = .ok (.ifCond .ne 7, 3) := by decide +kernel
theorem dd_Mo_locks_95 : decode bb_Mo_locks 95 = .ok (.iconst 1, 1) := by decide +kernel
theorem dd_Mo_locks_96 : decode bb_Mo_locks 96 = .ok (.goto 4, 3) := by decide +kernel
theorem dd_Mo_locks_99 : decode bb_Mo_locks 99 = .ok (.iconst 0, 1) := by decide +kernel
theorem dd_Mo_locks_100 : decode bb_Mo_locks 100 = .ok (.ireturn, 1) := by decide +kernel
theorem dd_Mo_loose_0 : decode bb_Mo_loose 0 = .ok (.aload_n 0, 1) := by decide +kernel
theorem dd_Mo_loose_1 : decode bb_Mo_loose 1 = .ok (.getfield 20, 3) := by decide +kernel
theorem dd_Mo_loose_4 : decode bb_Mo_loose 4 = .ok (.iload_n 1, 1) := by decide +kernel
theorem dd_Mo_loose_5 : decode bb_Mo_loose 5 = .ok (.iaload, 1) := by decide +kernel
theorem dd_Mo_loose_6 : decode bb_Mo_loose 6 = .ok (.istore_n 2, 1) := by decide +kernel
theorem dd_Mo_loose_7 : decode bb_Mo_loose 7 = .ok (.aload_n 0, 1) := by decide +kernel
theorem dd_Mo_loose_8 : decode bb_Mo_loose 8 = .ok (.getfield 66, 3) := by decide +kernel
theorem dd_Mo_loose_11 : decode bb_Mo_loose 11 = .ok (.iload_n 2, 1) := by decide +kernel
theorem dd_Mo_loose_12 : decode bb_Mo_loose 12 = .ok (.iaload, 1) := by decide +kernel
theorem dd_Mo_loose_13 : decode bb_Mo_loose 13 = .ok (.ifCond .eq 36, 3) := by decide +kernel
theorem dd_Mo_loose_16 : decode bb_Mo_loose 16 = .ok (.aload_n 0, 1) := by decide +kernel
theorem dd_Mo_loose_17 : decode bb_Mo_loose 17 = .ok (.getfield 69, 3) := by decide +kernel
theorem dd_Mo_loose_20 : decode bb_Mo_loose 20 = .ok (.iload_n 2, 1) := by decide +kernel
theorem dd_Mo_loose_21 : decode bb_Mo_loose 21 = .ok (.iaload, 1) := by decide +kernel
theorem dd_Mo_loose_22 : decode bb_Mo_loose 22 = .ok (.aload_n 0, 1) := by decide +kernel
theorem dd_Mo_loose_23 : decode bb_Mo_loose 23 = .ok (.getfield 13, 3) := by decide +kernel
theorem dd_Mo_loose_26 : decode bb_Mo_loose 26 = .ok (.iload_n 1, 1) := by decide +kernel
theorem dd_Mo_loose_27 : decode bb_Mo_loose 27 = .ok (.iaload, 1) := by decide +kernel
theorem dd_Mo_loose_28 : decode bb_Mo_loose 28 = .ok (.if_icmp .ne 21, 3) := by decide +kernel
theorem dd_Mo_loose_31 : decode bb_Mo_loose 31 = .ok (.aload_n 0, 1) := by decide +kernel
theorem dd_Mo_loose_32 : decode bb_Mo_loose 32 = .ok (.getfield 110, 3) := by decide +kernel
theorem dd_Mo_loose_35 : decode bb_Mo_loose 35 = .ok (.aload_n 0, 1) := by decide +kernel
theorem dd_Mo_loose_36 : decode bb_Mo_loose 36 = .ok (.getfield 23, 3) := by decide +kernel
theorem dd_Mo_loose_39 : decode bb_Mo_loose 39 = .ok (.iload_n 1, 1) := by decide +kernel
theorem dd_Mo_loose_40 : decode bb_Mo_loose 40 = .ok (.iaload, 1) := by decide +kernel
theorem dd_Mo_loose_41 : decode bb_Mo_loose 41 = .ok (.isub, 1) := by decide +kernel
theorem dd_Mo_loose_42 : decode bb_Mo_loose 42 = .ok (.aload_n 0, 1) := by decide +kernel
theorem dd_Mo_loose_43 : decode bb_Mo_loose 43 = .ok (.getfield 90, 3) := by decide +kernel
theorem dd_Mo_loose_46 : decode bb_Mo_loose 46 = .ok (.if_icmp .lt 7, 3) := by decide +kernel
theorem dd_Mo_loose_49 : decode bb_Mo_loose 49 = .ok (.iconst 1, 1) := by decide +kernel
theorem dd_Mo_loose_50 : decode bb_Mo_loose 50 = .ok (.goto 4, 3) := by decide +kernel
theorem dd_Mo_loose_53 : decode bb_Mo_loose 53 = .ok (.iconst 0, 1) := by decide +kernel
theorem dd_Mo_loose_54 : decode bb_Mo_loose 54 = .ok (.ireturn, 1) := by decide +kernel
theorem dd_Mo_decision_0 : decode bb_Mo_decision 0 = .ok (.iconst 0, 1) := by decide +kernel
theorem dd_Mo_decision_1 : decode bb_Mo_decision 1 = .ok (.istore_n 3, 1) := by decide +kernel
theorem dd_Mo_decision_2 : decode bb_Mo_decision 2 = .ok (.iconst 0, 1) := by decide +kernel
theorem dd_Mo_decision_3 : decode bb_Mo_decision 3 = .ok (.istore 4, 2) := by decide +kernel
theorem dd_Mo_decision_5 : decode bb_Mo_decision 5 = .ok (.iload 4, 2) := by decide +kernel
theorem dd_Mo_decision_7 : decode bb_Mo_decision 7 = .ok (.aload_n 0, 1) := by decide +kernel
theorem dd_Mo_decision_8 : decode bb_Mo_decision 8 = .ok (.getfield 99, 3) := by decide +kernel
theorem dd_Mo_decision_11 : decode bb_Mo_decision 11 = .ok (.if_icmp .ge 61, 3) := by decide +kernel
theorem dd_Mo_decision_14 : decode bb_Mo_decision 14 = .ok (.aload_n 0, 1) := by decide +kernel
theorem dd_Mo_decision_15 : decode bb_Mo_decision 15 = .ok (.getfield 32, 3) := by decide +kernel
theorem dd_Mo_decision_18 : decode bb_Mo_decision 18 = .ok (.iload 4, 2) := by decide +kernel
theorem dd_Mo_decision_20 : decode bb_Mo_decision 20 = .ok (.iaload, 1) := by decide +kernel
theorem dd_Mo_decision_21 : decode bb_Mo_decision 21 = .ok (.iload_n 1, 1) := by decide +kernel
theorem dd_Mo_decision_22 : decode bb_Mo_decision 22 = .ok (.if_icmp .ne 44, 3) := by decide +kernel
theorem dd_Mo_decision_25 : decode bb_Mo_decision 25 = .ok (.aload_n 0, 1) := by decide +kernel
theorem dd_Mo_decision_26 : decode bb_Mo_decision 26 = .ok (.getfield 38, 3) := by decide +kernel
theorem dd_Mo_decision_29 : decode bb_Mo_decision 29 = .ok (.iload 4, 2) := by decide +kernel
theorem dd_Mo_decision_31 : decode bb_Mo_decision 31 = .ok (.iaload, 1) := by decide +kernel
theorem dd_Mo_decision_32 : decode bb_Mo_decision 32 = .ok (.iload_n 2, 1) := by decide +kernel
theorem dd_Mo_decision_33 : decode bb_Mo_decision 33 = .ok (.if_icmp .ne 33, 3) := by decide +kernel
theorem dd_Mo_decision_36 : decode bb_Mo_decision 36 = .ok (.aload_n 0, 1) := by decide +kernel
theorem dd_Mo_decision_37 : decode bb_Mo_decision 37 = .ok (.getfield 41, 3) := by decide +kernel
theorem dd_Mo_decision_40 : decode bb_Mo_decision 40 = .ok (.iload 4, 2) := by decide +kernel
theorem dd_Mo_decision_42 : decode bb_Mo_decision 42 = .ok (.iaload, 1) := by decide +kernel
theorem dd_Mo_decision_43 : decode bb_Mo_decision 43 = .ok (.iconst 1, 1) := by decide +kernel
theorem dd_Mo_decision_44 : decode bb_Mo_decision 44 = .ok (.if_icmp .eq 14, 3) := by decide +kernel
theorem dd_Mo_decision_47 : decode bb_Mo_decision 47 = .ok (.aload_n 0, 1) := by decide +kernel
theorem dd_Mo_decision_48 : decode bb_Mo_decision 48 = .ok (.getfield 41, 3) := by decide +kernel
theorem dd_Mo_decision_51 : decode bb_Mo_decision 51 = .ok (.iload 4, 2) := by decide +kernel
theorem dd_Mo_decision_53 : decode bb_Mo_decision 53 = .ok (.iaload, 1) := by decide +kernel
theorem dd_Mo_decision_54 : decode bb_Mo_decision 54 = .ok (.iconst 2, 1) := by decide +kernel
theorem dd_Mo_decision_55 : decode bb_Mo_decision 55 = .ok (.if_icmp .ne 11, 3) := by decide +kernel
theorem dd_Mo_decision_58 : decode bb_Mo_decision 58 = .ok (.aload_n 0, 1) := by decide +kernel
theorem dd_Mo_decision_59 : decode bb_Mo_decision 59 = .ok (.getfield 35, 3) := by decide +kernel
theorem dd_Mo_decision_62 : decode bb_Mo_decision 62 = .ok (.iload 4, 2) := by decide +kernel
theorem dd_Mo_decision_64 : decode bb_Mo_decision 64 = .ok (.iaload, 1) := by decide +kernel
theorem dd_Mo_decision_65 : decode bb_Mo_decision 65 = .ok (.istore_n 3, 1) := by decide +kernel
theorem dd_Mo_decision_66 : decode bb_Mo_decision 66 = .ok (.iinc 4 1, 3) := by decide +kernel
theorem dd_Mo_decision_69 : decode bb_Mo_decision 69 = .ok (.goto (-64), 3) := by decide +kernel
theorem dd_Mo_decision_72 : decode bb_Mo_decision 72 = .ok (.iload_n 3, 1) := by decide +kernel
theorem dd_Mo_decision_73 : decode bb_Mo_decision 73 = .ok (.ireturn, 1) := by decide +kernel
theorem dd_Mo_overtaken_0 : decode bb_Mo_overtaken 0 = .ok (.iconst 0, 1) := by decide +kernel
theorem dd_Mo_overtaken_1 : decode bb_Mo_overtaken 1 = .ok (.istore_n 3, 1) := by decide +kernel
theorem dd_Mo_overtaken_2 : decode bb_Mo_overtaken 2 = .ok (.iconst 0, 1) := by decide +kernel
theorem dd_Mo_overtaken_3 : decode bb_Mo_overtaken 3 = .ok (.istore 4, 2) := by decide +kernel
theorem dd_Mo_overtaken_5 : decode bb_Mo_overtaken 5 = .ok (.iload 4, 2) := by decide +kernel
theorem dd_Mo_overtaken_7 : decode bb_Mo_overtaken 7 = .ok (.aload_n 0, 1) := by decide +kernel
theorem dd_Mo_overtaken_8 : decode bb_Mo_overtaken 8 = .ok (.getfield 99, 3) := by decide +kernel
theorem dd_Mo_overtaken_11 : decode bb_Mo_overtaken 11 = .ok (.if_icmp .ge 97, 3) := by decide +kernel
theorem dd_Mo_overtaken_14 : decode bb_Mo_overtaken 14 = .ok (.aload_n 0, 1) := by decide +kernel
theorem dd_Mo_overtaken_15 : decode bb_Mo_overtaken 15 = .ok (.getfield 41, 3) := by decide +kernel
theorem dd_Mo_overtaken_18 : decode bb_Mo_overtaken 18 = .ok (.iload 4, 2) := by decide +kernel
theorem dd_Mo_overtaken_20 : decode bb_Mo_overtaken 20 = .ok (.iaload, 1) := by decide +kernel
theorem dd_Mo_overtaken_21 : decode bb_Mo_overtaken 21 = .ok (.iconst 1, 1) := by decide +kernel
theorem dd_Mo_overtaken_22 : decode bb_Mo_overtaken 22 = .ok (.if_icmp .eq 14, 3) := by decide +kernel
theorem dd_Mo_overtaken_25 : decode bb_Mo_overtaken 25 = .ok (.aload_n 0, 1) := by decide +kernel
theorem dd_Mo_overtaken_26 : decode bb_Mo_overtaken 26 = .ok (.getfield 41, 3) := by decide +kernel
theorem dd_Mo_overtaken_29 : decode bb_Mo_overtaken 29 = .ok (.iload 4, 2) := by decide +kernel
theorem dd_Mo_overtaken_31 : decode bb_Mo_overtaken 31 = .ok (.iaload, 1) := by decide +kernel
theorem dd_Mo_overtaken_32 : decode bb_Mo_overtaken 32 = .ok (.iconst 2, 1) := by decide +kernel
theorem dd_Mo_overtaken_33 : decode bb_Mo_overtaken 33 = .ok (.if_icmp .ne 18, 3) := by decide +kernel
theorem dd_Mo_overtaken_36 : decode bb_Mo_overtaken 36 = .ok (.aload_n 0, 1) := by decide +kernel
theorem dd_Mo_overtaken_37 : decode bb_Mo_overtaken 37 = .ok (.getfield 35, 3) := by decide +kernel
theorem dd_Mo_overtaken_40 : decode bb_Mo_overtaken 40 = .ok (.iload 4, 2) := by decide +kernel
theorem dd_Mo_overtaken_42 : decode bb_Mo_overtaken 42 = .ok (.iaload, 1) := by decide +kernel
theorem dd_Mo_overtaken_43 : decode bb_Mo_overtaken 43 = .ok (.iload_n 2, 1) := by decide +kernel
theorem dd_Mo_overtaken_44 : decode bb_Mo_overtaken 44 = .ok (.if_icmp .le 7, 3) := by decide +kernel
theorem dd_Mo_overtaken_47 : decode bb_Mo_overtaken 47 = .ok (.iconst 1, 1) := by decide +kernel
theorem dd_Mo_overtaken_48 : decode bb_Mo_overtaken 48 = .ok (.goto 4, 3) := by decide +kernel
theorem dd_Mo_overtaken_51 : decode bb_Mo_overtaken 51 = .ok (.iconst 0, 1) := by decide +kernel
theorem dd_Mo_overtaken_52 : decode bb_Mo_overtaken 52 = .ok (.istore 5, 2) := by decide +kernel
theorem dd_Mo_overtaken_54 : decode bb_Mo_overtaken 54 = .ok (.iload_n 3, 1) := by decide +kernel
theorem dd_Mo_overtaken_55 : decode bb_Mo_overtaken 55 = .ok (.ifCond .ne 41, 3) := by decide +kernel
theorem dd_Mo_overtaken_58 : decode bb_Mo_overtaken 58 = .ok (.aload_n 0, 1) := by decide +kernel
theorem dd_Mo_overtaken_59 : decode bb_Mo_overtaken 59 = .ok (.getfield 32, 3) := by decide +kernel
theorem dd_Mo_overtaken_62 : decode bb_Mo_overtaken 62 = .ok (.iload 4, 2) := by decide +kernel
theorem dd_Mo_overtaken_64 : decode bb_Mo_overtaken 64 = .ok (.iaload, 1) := by decide +kernel
theorem dd_Mo_overtaken_65 : decode bb_Mo_overtaken 65 = .ok (.iload_n 1, 1) := by decide +kernel
theorem dd_Mo_overtaken_66 : decode bb_Mo_overtaken 66 = .ok (.if_icmp .ne 34, 3) := by decide +kernel
theorem dd_Mo_overtaken_69 : decode bb_Mo_overtaken 69 = .ok (.iload 5, 2) := by decide +kernel
theorem dd_Mo_overtaken_71 : decode bb_Mo_overtaken 71 = .ok (.ifCond .ne 25, 3) := by decide +kernel
theorem dd_Mo_overtaken_74 : decode bb_Mo_overtaken 74 = .ok (.aload_n 0, 1) := by decide +kernel
theorem dd_Mo_overtaken_75 : decode bb_Mo_overtaken 75 = .ok (.getfield 41, 3) := by decide +kernel
theorem dd_Mo_overtaken_78 : decode bb_Mo_overtaken 78 = .ok (.iload 4, 2) := by decide +kernel
theorem dd_Mo_overtaken_80 : decode bb_Mo_overtaken 80 = .ok (.iaload, 1) := by decide +kernel
theorem dd_Mo_overtaken_81 : decode bb_Mo_overtaken 81 = .ok (.iconst 3, 1) := by decide +kernel
theorem dd_Mo_overtaken_82 : decode bb_Mo_overtaken 82 = .ok (.if_icmp .ne 18, 3) := by decide +kernel
theorem dd_Mo_overtaken_85 : decode bb_Mo_overtaken 85 = .ok (.aload_n 0, 1) := by decide +kernel
theorem dd_Mo_overtaken_86 : decode bb_Mo_overtaken 86 = .ok (.getfield 38, 3) := by decide +kernel
theorem dd_Mo_overtaken_89 : decode bb_Mo_overtaken 89 = .ok (.iload 4, 2) := by decide +kernel
theorem dd_Mo_overtaken_91 : decode bb_Mo_overtaken 91 = .ok (.iaload, 1) := by decide +kernel
theorem dd_Mo_overtaken_92 : decode bb_Mo_overtaken 92 = .ok (.iload_n 2, 1) := by decide +kernel
theorem dd_Mo_overtaken_93 : decode bb_Mo_overtaken 93 = .ok (.if_icmp .ne 7, 3) := by decide +kernel
theorem dd_Mo_overtaken_96 : decode bb_Mo_overtaken 96 = .ok (.iconst 1, 1) := by decide +kernel
theorem dd_Mo_overtaken_97 : decode bb_Mo_overtaken 97 = .ok (.goto 4, 3) := by decide +kernel
theorem dd_Mo_overtaken_100 : decode bb_Mo_overtaken 100 = .ok (.iconst 0, 1) := by decide +kernel
theorem dd_Mo_overtaken_101 : decode bb_Mo_overtaken 101 = .ok (.istore_n 3, 1) := by decide +kernel
theorem dd_Mo_overtaken_102 : decode bb_Mo_overtaken 102 = .ok (.iinc 4 1, 3) := by decide +kernel
theorem dd_Mo_overtaken_105 : decode bb_Mo_overtaken 105 = .ok (.goto (-100), 3) := by decide +kernel
theorem dd_Mo_overtaken_108 : decode bb_Mo_overtaken 108 = .ok (.iload_n 3, 1) := by decide +kernel
theorem dd_Mo_overtaken_109 : decode bb_Mo_overtaken 109 = .ok (.ireturn, 1) := by decide +kernel
theorem dd_Mo_latest_0 : decode bb_Mo_latest 0 = .ok (.iconst (-1), 1) := by decide +kernel
theorem dd_Mo_latest_1 : decode bb_Mo_latest 1 = .ok (.istore_n 3, 1) := by decide +kernel
theorem dd_Mo_latest_2 : decode bb_Mo_latest 2 = .ok (.iconst 0, 1) := by decide +kernel
theorem dd_Mo_latest_3 : decode bb_Mo_latest 3 = .ok (.istore 4, 2) := by decide +kernel
theorem dd_Mo_latest_5 : decode bb_Mo_latest 5 = .ok (.iload 4, 2) := by decide +kernel
theorem dd_Mo_latest_7 : decode bb_Mo_latest 7 = .ok (.aload_n 0, 1) := by decide +kernel
theorem dd_Mo_latest_8 : decode bb_Mo_latest 8 = .ok (.getfield 99, 3) := by decide +kernel
theorem dd_Mo_latest_11 : decode bb_Mo_latest 11 = .ok (.if_icmp .ge 92, 3) := by decide +kernel
theorem dd_Mo_latest_14 : decode bb_Mo_latest 14 = .ok (.aload_n 0, 1) := by decide +kernel
theorem dd_Mo_latest_15 : decode bb_Mo_latest 15 = .ok (.getfield 32, 3) := by decide +kernel
theorem dd_Mo_latest_18 : decode bb_Mo_latest 18 = .ok (.iload 4, 2) := by decide +kernel
theorem dd_Mo_latest_20 : decode bb_Mo_latest 20 = .ok (.iaload, 1) := by decide +kernel
theorem dd_Mo_latest_21 : decode bb_Mo_latest 21 = .ok (.iload_n 1, 1) := by decide +kernel
theorem dd_Mo_latest_22 : decode bb_Mo_latest 22 = .ok (.if_icmp .ne 40, 3) := by decide +kernel
theorem dd_Mo_latest_25 : decode bb_Mo_latest 25 = .ok (.aload_n 0, 1) := by decide +kernel
theorem dd_Mo_latest_26 : decode bb_Mo_latest 26 = .ok (.getfield 41, 3) := by decide +kernel
theorem dd_Mo_latest_29 : decode bb_Mo_latest 29 = .ok (.iload 4, 2) := by decide +kernel
theorem dd_Mo_latest_31 : decode bb_Mo_latest 31 = .ok (.iaload, 1) := by decide +kernel
theorem dd_Mo_latest_32 : decode bb_Mo_latest 32 = .ok (.iconst 1, 1) := by decide +kernel
theorem dd_Mo_latest_33 : decode bb_Mo_latest 33 = .ok (.if_icmp .eq 14, 3) := by decide +kernel
theorem dd_Mo_latest_36 : decode bb_Mo_latest 36 = .ok (.aload_n 0, 1) := by decide +kernel
theorem dd_Mo_latest_37 : decode bb_Mo_latest 37 = .ok (.getfield 41, 3) := by decide +kernel
theorem dd_Mo_latest_40 : decode bb_Mo_latest 40 = .ok (.iload 4, 2) := by decide +kernel
theorem dd_Mo_latest_42 : decode bb_Mo_latest 42 = .ok (.iaload, 1) := by decide +kernel
theorem dd_Mo_latest_43 : decode bb_Mo_latest 43 = .ok (.iconst 2, 1) := by decide +kernel
theorem dd_Mo_latest_44 : decode bb_Mo_latest 44 = .ok (.if_icmp .ne 18, 3) := by decide +kernel
theorem dd_Mo_latest_47 : decode bb_Mo_latest 47 = .ok (.aload_n 0, 1) := by decide +kernel
theorem dd_Mo_latest_48 : decode bb_Mo_latest 48 = .ok (.getfield 35, 3) := by decide +kernel
theorem dd_Mo_latest_51 : decode bb_Mo_latest 51 = .ok (.iload 4, 2) := by decide +kernel
theorem dd_Mo_latest_53 : decode bb_Mo_latest 53 = .ok (.iaload, 1) := by decide +kernel
theorem dd_Mo_latest_54 : decode bb_Mo_latest 54 = .ok (.iload_n 2, 1) := by decide +kernel
theorem dd_Mo_latest_55 : decode bb_Mo_latest 55 = .ok (.if_icmp .ge 7, 3) := by decide +kernel
theorem dd_Mo_latest_58 : decode bb_Mo_latest 58 = .ok (.iconst 1, 1) := by decide +kernel
theorem dd_Mo_latest_59 : decode bb_Mo_latest 59 = .ok (.goto 4, 3) := by decide +kernel
theorem dd_Mo_latest_62 : decode bb_Mo_latest 62 = .ok (.iconst 0, 1) := by decide +kernel
theorem dd_Mo_latest_63 : decode bb_Mo_latest 63 = .ok (.istore 5, 2) := by decide +kernel
theorem dd_Mo_latest_65 : decode bb_Mo_latest 65 = .ok (.iload 5, 2) := by decide +kernel
theorem dd_Mo_latest_67 : decode bb_Mo_latest 67 = .ok (.ifCond .eq 28, 3) := by decide +kernel
theorem dd_Mo_latest_70 : decode bb_Mo_latest 70 = .ok (.iload_n 3, 1) := by decide +kernel
theorem dd_Mo_latest_71 : decode bb_Mo_latest 71 = .ok (.ifCond .lt 19, 3) := by decide +kernel
theorem dd_Mo_latest_74 : decode bb_Mo_latest 74 = .ok (.aload_n 0, 1) := by decide +kernel
theorem dd_Mo_latest_75 : decode bb_Mo_latest 75 = .ok (.getfield 35, 3) := by decide +kernel
theorem dd_Mo_latest_78 : decode bb_Mo_latest 78 = .ok (.iload 4, 2) := by decide +kernel
theorem dd_Mo_latest_80 : decode bb_Mo_latest 80 = .ok (.iaload, 1) := by decide +kernel
theorem dd_Mo_latest_81 : decode bb_Mo_latest 81 = .ok (.aload_n 0, 1) := by decide +kernel
theorem dd_Mo_latest_82 : decode bb_Mo_latest 82 = .ok (.getfield 35, 3) := by decide +kernel
theorem dd_Mo_latest_85 : decode bb_Mo_latest 85 = .ok (.iload_n 3, 1) := by decide +kernel
theorem dd_Mo_latest_86 : decode bb_Mo_latest 86 = .ok (.iaload, 1) := by decide +kernel
theorem dd_Mo_latest_87 : decode bb_Mo_latest 87 = .ok (.if_icmp .le 8, 3) := by decide +kernel
theorem dd_Mo_latest_90 : decode bb_Mo_latest 90 = .ok (.iload 4, 2) := by decide +kernel
theorem dd_Mo_latest_92 : decode bb_Mo_latest 92 = .ok (.goto 4, 3) := by decide +kernel
theorem dd_Mo_latest_95 : decode bb_Mo_latest 95 = .ok (.iload_n 3, 1) := by decide +kernel
theorem dd_Mo_latest_96 : decode bb_Mo_latest 96 = .ok (.istore_n 3, 1) := by decide +kernel
theorem dd_Mo_latest_97 : decode bb_Mo_latest 97 = .ok (.iinc 4 1, 3) := by decide +kernel
theorem dd_Mo_latest_100 : decode bb_Mo_latest 100 = .ok (.goto (-95), 3) := by decide +kernel
theorem dd_Mo_latest_103 : decode bb_Mo_latest 103 = .ok (.iload_n 3, 1) := by decide +kernel
theorem dd_Mo_latest_104 : decode bb_Mo_latest 104 = .ok (.ireturn, 1) := by decide +kernel
theorem dd_Mo_clearing_0 : decode bb_Mo_clearing 0 = .ok (.aload_n 0, 1) := by decide +kernel
theorem dd_Mo_clearing_1 : decode bb_Mo_clearing 1 = .ok (.getfield 13, 3) := by decide +kernel
theorem dd_Mo_clearing_4 : decode bb_Mo_clearing 4 = .ok (.iload_n 1, 1) := by decide +kernel
theorem dd_Mo_clearing_5 : decode bb_Mo_clearing 5 = .ok (.iaload, 1) := by decide +kernel
theorem dd_Mo_clearing_6 : decode bb_Mo_clearing 6 = .ok (.istore_n 2, 1) := by decide +kernel
theorem dd_Mo_clearing_7 : decode bb_Mo_clearing 7 = .ok (.aload_n 0, 1) := by decide +kernel
theorem dd_Mo_clearing_8 : decode bb_Mo_clearing 8 = .ok (.getfield 17, 3) := by decide +kernel
theorem dd_Mo_clearing_11 : decode bb_Mo_clearing 11 = .ok (.iload_n 1, 1) := by decide +kernel
theorem dd_Mo_clearing_12 : decode bb_Mo_clearing 12 = .ok (.iaload, 1) := by decide +kernel
theorem dd_Mo_clearing_13 : decode bb_Mo_clearing 13 = .ok (.istore_n 3, 1) := by decide +kernel
theorem dd_Mo_clearing_14 : decode bb_Mo_clearing 14 = .ok (.aload_n 0, 1) := by decide +kernel
theorem dd_Mo_clearing_15 : decode bb_Mo_clearing 15 = .ok (.getfield 47, 3) := by decide +kernel
theorem dd_Mo_clearing_18 : decode bb_Mo_clearing 18 = .ok (.iload_n 3, 1) := by decide +kernel
theorem dd_Mo_clearing_19 : decode bb_Mo_clearing 19 = .ok (.iconst 4, 1) := by decide +kernel
theorem dd_Mo_clearing_20 : decode bb_Mo_clearing 20 = .ok (.idiv, 1) := by decide +kernel
theorem dd_Mo_clearing_21 : decode bb_Mo_clearing 21 = .ok (.baload, 1) := by decide +kernel
theorem dd_Mo_clearing_22 : decode bb_Mo_clearing 22 = .ok (.ifCond .eq 5, 3) := by decide +kernel
theorem dd_Mo_clearing_25 : decode bb_Mo_clearing 25 = .ok (.iconst 0, 1) := by decide +kernel
theorem dd_Mo_clearing_26 : decode bb_Mo_clearing 26 = .ok (.ireturn, 1) := by decide +kernel
theorem dd_Mo_clearing_27 : decode bb_Mo_clearing 27 = .ok (.aload_n 0, 1) := by decide +kernel
theorem dd_Mo_clearing_28 : decode bb_Mo_clearing 28 = .ok (.iload_n 3, 1) := by decide +kernel
theorem dd_Mo_clearing_29 : decode bb_Mo_clearing 29 = .ok (.iload_n 2, 1) := by decide +kernel
theorem dd_Mo_clearing_30 : decode bb_Mo_clearing 30 = .ok (.invokevirtual 113, 3) := by decide +kernel
theorem dd_Mo_clearing_33 : decode bb_Mo_clearing 33 = .ok (.istore 4, 2) := by decide +kernel
theorem dd_Mo_clearing_35 : decode bb_Mo_clearing 35 = .ok (.iload 4, 2) := by decide +kernel
theorem dd_Mo_clearing_37 : decode bb_Mo_clearing 37 = .ok (.ifCond .le 19, 3) := by decide +kernel
theorem dd_Mo_clearing_40 : decode bb_Mo_clearing 40 = .ok (.aload_n 0, 1) := by decide +kernel
theorem dd_Mo_clearing_41 : decode bb_Mo_clearing 41 = .ok (.iload_n 1, 1) := by decide +kernel
theorem dd_Mo_clearing_42 : decode bb_Mo_clearing 42 = .ok (.iload 4, 2) := by decide +kernel
theorem dd_Mo_clearing_44 : decode bb_Mo_clearing 44 = .ok (.invokevirtual 117, 3) := by decide +kernel
theorem dd_Mo_clearing_47 : decode bb_Mo_clearing 47 = .ok (.ifCond .eq 7, 3) := by decide +kernel
theorem dd_Mo_clearing_50 : decode bb_Mo_clearing 50 = .ok (.iconst 2, 1) := by decide +kernel
theorem dd_Mo_clearing_51 : decode bb_Mo_clearing 51 = .ok (.goto 4, 3) := by decide +kernel
theorem dd_Mo_clearing_54 : decode bb_Mo_clearing 54 = .ok (.iconst 0, 1) := by decide +kernel
theorem dd_Mo_clearing_55 : decode bb_Mo_clearing 55 = .ok (.ireturn, 1) := by decide +kernel
theorem dd_Mo_clearing_56 : decode bb_Mo_clearing 56 = .ok (.aload_n 0, 1) := by decide +kernel
theorem dd_Mo_clearing_57 : decode bb_Mo_clearing 57 = .ok (.getfield 13, 3) := by decide +kernel
theorem dd_Mo_clearing_60 : decode bb_Mo_clearing 60 = .ok (.iload_n 3, 1) := by decide +kernel
theorem dd_Mo_clearing_61 : decode bb_Mo_clearing 61 = .ok (.iaload, 1) := by decide +kernel
theorem dd_Mo_clearing_62 : decode bb_Mo_clearing 62 = .ok (.iload_n 2, 1) := by decide +kernel
theorem dd_Mo_clearing_63 : decode bb_Mo_clearing 63 = .ok (.if_icmp .ne 31, 3) := by decide +kernel
theorem dd_Mo_clearing_66 : decode bb_Mo_clearing 66 = .ok (.aload_n 0, 1) := by decide +kernel
theorem dd_Mo_clearing_67 : decode bb_Mo_clearing 67 = .ok (.iload_n 3, 1) := by decide +kernel
theorem dd_Mo_clearing_68 : decode bb_Mo_clearing 68 = .ok (.invokevirtual 121, 3) := by decide +kernel
theorem dd_Mo_clearing_71 : decode bb_Mo_clearing 71 = .ok (.ifCond .ne 5, 3) := by decide +kernel
theorem dd_Mo_clearing_74 : decode bb_Mo_clearing 74 = .ok (.iconst 1, 1) := by decide +kernel
theorem dd_Mo_clearing_75 : decode bb_Mo_clearing 75 = .ok (.ireturn, 1) := by decide +kernel
theorem dd_Mo_clearing_76 : decode bb_Mo_clearing 76 = .ok (.aload_n 0, 1) := by decide +kernel
theorem dd_Mo_clearing_77 : decode bb_Mo_clearing 77 = .ok (.iload_n 3, 1) := by decide +kernel
theorem dd_Mo_clearing_78 : decode bb_Mo_clearing 78 = .ok (.iload_n 2, 1) := by decide +kernel
theorem dd_Mo_clearing_79 : decode bb_Mo_clearing 79 = .ok (.invokevirtual 124, 3) := by decide +kernel
theorem dd_Mo_clearing_82 : decode bb_Mo_clearing 82 = .ok (.ifCond .ne 5, 3) := by decide +kernel
theorem dd_Mo_clearing_85 : decode bb_Mo_clearing 85 = .ok (.iconst 0, 1) := by decide +kernel
theorem dd_Mo_clearing_86 : decode bb_Mo_clearing 86 = .ok (.ireturn, 1) := by decide +kernel
theorem dd_Mo_clearing_87 : decode bb_Mo_clearing 87 = .ok (.iload_n 3, 1) := by decide +kernel
theorem dd_Mo_clearing_88 : decode bb_Mo_clearing 88 = .ok (.iload_n 1, 1) := by decide +kernel
theorem dd_Mo_clearing_89 : decode bb_Mo_clearing 89 = .ok (.if_icmp .ne 5, 3) := by decide +kernel
theorem dd_Mo_clearing_92 : decode bb_Mo_clearing 92 = .ok (.iconst 3, 1) := by decide +kernel
theorem dd_Mo_clearing_93 : decode bb_Mo_clearing 93 = .ok (.ireturn, 1) := by decide +kernel
theorem dd_Mo_clearing_94 : decode bb_Mo_clearing 94 = .ok (.aload_n 0, 1) := by decide +kernel
theorem dd_Mo_clearing_95 : decode bb_Mo_clearing 95 = .ok (.iload_n 1, 1) := by decide +kernel
theorem dd_Mo_clearing_96 : decode bb_Mo_clearing 96 = .ok (.iload_n 2, 1) := by decide +kernel
theorem dd_Mo_clearing_97 : decode bb_Mo_clearing 97 = .ok (.invokevirtual 124, 3) := by decide +kernel
theorem dd_Mo_clearing_100 : decode bb_Mo_clearing 100 = .ok (.ifCond .eq 7, 3) := by decide +kernel
theorem dd_Mo_clearing_103 : decode bb_Mo_clearing 103 = .ok (.iconst 3, 1) := by decide +kernel
theorem dd_Mo_clearing_104 : decode bb_Mo_clearing 104 = .ok (.goto 4, 3) := by decide +kernel
theorem dd_Mo_clearing_107 : decode bb_Mo_clearing 107 = .ok (.iconst 0, 1) := by decide +kernel
theorem dd_Mo_clearing_108 : decode bb_Mo_clearing 108 = .ok (.ireturn, 1) := by decide +kernel
theorem dd_Mo_isClient_0 : decode bb_Mo_isClient 0 = .ok (.iload_n 1, 1) := by decide +kernel
theorem dd_Mo_isClient_1 : decode bb_Mo_isClient 1 = .ok (.iconst 0, 1) := by decide +kernel
theorem dd_Mo_isClient_2 : decode bb_Mo_isClient 2 = .ok (.iconst 3, 1) := by decide +kernel
theorem dd_Mo_isClient_3 : decode bb_Mo_isClient 3 = .ok (.invokestatic 127, 3) := by decide +kernel
theorem dd_Mo_isClient_6 : decode bb_Mo_isClient 6 = .ok (.ireturn, 1) := by decide +kernel
theorem dd_Mo_isCell_0 : decode bb_Mo_isCell 0 = .ok (.iload_n 0, 1) := by decide +kernel
theorem dd_Mo_isCell_1 : decode bb_Mo_isCell 1 = .ok (.iconst 0, 1) := by decide +kernel
theorem dd_Mo_isCell_2 : decode bb_Mo_isCell 2 = .ok (.bipush 11, 2) := by decide +kernel
theorem dd_Mo_isCell_4 : decode bb_Mo_isCell 4 = .ok (.invokestatic 127, 3) := by decide +kernel
theorem dd_Mo_isCell_7 : decode bb_Mo_isCell 7 = .ok (.ireturn, 1) := by decide +kernel
theorem dd_Mo_begin_0 : decode bb_Mo_begin 0 = .ok (.aload_n 0, 1) := by decide +kernel
theorem dd_Mo_begin_1 : decode bb_Mo_begin 1 = .ok (.iconst 0, 1) := by decide +kernel
theorem dd_Mo_begin_2 : decode bb_Mo_begin 2 = .ok (.putfield 93, 3) := by decide +kernel
theorem dd_Mo_begin_5 : decode bb_Mo_begin 5 = .ok (.aload_n 0, 1) := by decide +kernel
theorem dd_Mo_begin_6 : decode bb_Mo_begin 6 = .ok (.iload_n 1, 1) := by decide +kernel
theorem dd_Mo_begin_7 : decode bb_Mo_begin 7 = .ok (.invokevirtual 131, 3) := by decide +kernel
theorem dd_Mo_begin_10 : decode bb_Mo_begin 10 = .ok (.ifCond .ne 9, 3) := by decide +kernel
theorem dd_Mo_begin_13 : decode bb_Mo_begin 13 = .ok (.aload_n 0, 1) := by decide +kernel
theorem dd_Mo_begin_14 : decode bb_Mo_begin 14 = .ok (.iconst 1, 1) := by decide +kernel
theorem dd_Mo_begin_15 : decode bb_Mo_begin 15 = .ok (.invokevirtual 134, 3) := by decide +kernel
theorem dd_Mo_begin_18 : decode bb_Mo_begin 18 = .ok (.ireturn, 1) := by decide +kernel
theorem dd_Mo_begin_19 : decode bb_Mo_begin 19 = .ok (.aload_n 0, 1) := by decide +kernel
theorem dd_Mo_begin_20 : decode bb_Mo_begin 20 = .ok (.getfield 66, 3) := by decide +kernel
theorem dd_Mo_begin_23 : decode bb_Mo_begin 23 = .ok (.iload_n 1, 1) := by decide +kernel
theorem dd_Mo_begin_24 : decode bb_Mo_begin 24 = .ok (.iaload, 1) := by decide +kernel
theorem dd_Mo_begin_25 : decode bb_Mo_begin 25 = .ok (.ifCond .eq 9, 3) := by decide +kernel
theorem dd_Mo_begin_28 : decode bb_Mo_begin 28 = .ok (.aload_n 0, 1) := by decide +kernel
theorem dd_Mo_begin_29 : decode bb_Mo_begin 29 = .ok (.iconst 2, 1) := by decide +kernel
theorem dd_Mo_begin_30 : decode bb_Mo_begin 30 = .ok (.invokevirtual 134, 3) := by decide +kernel
theorem dd_Mo_begin_33 : decode bb_Mo_begin 33 = .ok (.ireturn, 1) := by decide +kernel
theorem dd_Mo_begin_34 : decode bb_Mo_begin 34 = .ok (.aload_n 0, 1) := by decide +kernel
theorem dd_Mo_begin_35 : decode bb_Mo_begin 35 = .ok (.getfield 69, 3) := by decide +kernel
theorem dd_Mo_begin_38 : decode bb_Mo_begin 38 = .ok (.iload_n 1, 1) := by decide +kernel
theorem dd_Mo_begin_39 : decode bb_Mo_begin 39 = .ok (.aload_n 0, 1) := by decide +kernel
theorem dd_Mo_begin_40 : decode bb_Mo_begin 40 = .ok (.invokevirtual 138, 3) := by decide +kernel
theorem dd_Mo_begin_43 : decode bb_Mo_begin 43 = .ok (.iastore, 1) := by decide +kernel
theorem dd_Mo_begin_44 : decode bb_Mo_begin 44 = .ok (.aload_n 0, 1) := by decide +kernel
theorem dd_Mo_begin_45 : decode bb_Mo_begin 45 = .ok (.getfield 66, 3) := by decide +kernel
theorem dd_Mo_begin_48 : decode bb_Mo_begin 48 = .ok (.iload_n 1, 1) := by decide +kernel
theorem dd_Mo_begin_49 : decode bb_Mo_begin 49 = .ok (.iconst 1, 1) := by decide +kernel
theorem dd_Mo_begin_50 : decode bb_Mo_begin 50 = .ok (.iastore, 1) := by decide +kernel
theorem dd_Mo_begin_51 : decode bb_Mo_begin 51 = .ok (.aload_n 0, 1) := by decide +kernel
theorem dd_Mo_begin_52 : decode bb_Mo_begin 52 = .ok (.getfield 72, 3) := by decide +kernel
theorem dd_Mo_begin_55 : decode bb_Mo_begin 55 = .ok (.iload_n 1, 1) := by decide +kernel
theorem dd_Mo_begin_56 : decode bb_Mo_begin 56 = .ok (.iconst 0, 1) := by decide +kernel
theorem dd_Mo_begin_57 : decode bb_Mo_begin 57 = .ok (.iastore, 1) := by decide +kernel
theorem dd_Mo_begin_58 : decode bb_Mo_begin 58 = .ok (.aload_n 0, 1) := by decide +kernel
theorem dd_Mo_begin_59 : decode bb_Mo_begin 59 = .ok (.getfield 75, 3) := by decide +kernel
theorem dd_Mo_begin_62 : decode bb_Mo_begin 62 = .ok (.iload_n 1, 1) := by decide +kernel
theorem dd_Mo_begin_63 : decode bb_Mo_begin 63 = .ok (.iconst 0, 1) := by decide +kernel
theorem dd_Mo_begin_64 : decode bb_Mo_begin 64 = .ok (.bastore, 1) := by decide +kernel
theorem dd_Mo_begin_65 : decode bb_Mo_begin 65 = .ok (.bipush 12, 2) := by decide +kernel
theorem dd_Mo_begin_67 : decode bb_Mo_begin 67 = .ok (.iload_n 1, 1) := by decide +kernel
theorem dd_Mo_begin_68 : decode bb_Mo_begin 68 = .ok (.imul, 1) := by decide +kernel
theorem dd_Mo_begin_69 : decode bb_Mo_begin 69 = .ok (.istore_n 2, 1) := by decide +kernel
theorem dd_Mo_begin_70 : decode bb_Mo_begin 70 = .ok (.iload_n 2, 1) := by decide +kernel
theorem dd_Mo_begin_71 : decode bb_Mo_begin 71 = .ok (.bipush 12, 2) := by decide +kernel
theorem dd_Mo_begin_73 : decode bb_Mo_begin 73 = .ok (.iload_n 1, 1) := by decide +kernel
theorem dd_Mo_begin_74 : decode bb_Mo_begin 74 = .ok (.imul, 1) := by decide +kernel
theorem dd_Mo_begin_75 : decode bb_Mo_begin 75 = .ok (.bipush 12, 2) := by decide +kernel
theorem dd_Mo_begin_77 : decode bb_Mo_begin 77 = .ok (.iadd, 1) := by decide +kernel
theorem dd_Mo_begin_78 : decode bb_Mo_begin 78 = .ok (.if_icmp .ge 37, 3) := by decide +kernel
theorem dd_Mo_begin_81 : decode bb_Mo_begin 81 = .ok (.aload_n 0, 1) := by decide +kernel
theorem dd_Mo_begin_82 : decode bb_Mo_begin 82 = .ok (.getfield 78, 3) := by decide +kernel
theorem dd_Mo_begin_85 : decode bb_Mo_begin 85 = .ok (.iload_n 2, 1) := by decide +kernel
theorem dd_Mo_begin_86 : decode bb_Mo_begin 86 = .ok (.iconst 0, 1) := by decide +kernel
theorem dd_Mo_begin_87 : decode bb_Mo_begin 87 = .ok (.iastore, 1) := by decide +kernel
theorem dd_Mo_begin_88 : decode bb_Mo_begin 88 = .ok (.aload_n 0, 1) := by decide +kernel
theorem dd_Mo_begin_89 : decode bb_Mo_begin 89 = .ok (.getfield 81, 3) := by decide +kernel
theorem dd_Mo_begin_92 : decode bb_Mo_begin 92 = .ok (.iload_n 2, 1) := by decide +kernel
theorem dd_Mo_begin_93 : decode bb_Mo_begin 93 = .ok (.iconst 0, 1) := by decide +kernel
theorem dd_Mo_begin_94 : decode bb_Mo_begin 94 = .ok (.iastore, 1) := by decide +kernel
theorem dd_Mo_begin_95 : decode bb_Mo_begin 95 = .ok (.aload_n 0, 1) := by decide +kernel
theorem dd_Mo_begin_96 : decode bb_Mo_begin 96 = .ok (.getfield 84, 3) := by decide +kernel
theorem dd_Mo_begin_99 : decode bb_Mo_begin 99 = .ok (.iload_n 2, 1) := by decide +kernel
theorem dd_Mo_begin_100 : decode bb_Mo_begin 100 = .ok (.iconst 0, 1) := by decide +kernel
theorem dd_Mo_begin_101 : decode bb_Mo_begin 101 = .ok (.bastore, 1) := by decide +kernel
theorem dd_Mo_begin_102 : decode bb_Mo_begin 102 = .ok (.aload_n 0, 1) := by decide +kernel
theorem dd_Mo_begin_103 : decode bb_Mo_begin 103 = .ok (.getfield 87, 3) := by decide +kernel
theorem dd_Mo_begin_106 : decode bb_Mo_begin 106 = .ok (.iload_n 2, 1) := by decide +kernel
theorem dd_Mo_begin_107 : decode bb_Mo_begin 107 = .ok (.iconst 0, 1) := by decide +kernel
theorem dd_Mo_begin_108 : decode bb_Mo_begin 108 = .ok (.bastore, 1) := by decide +kernel
theorem dd_Mo_begin_109 : decode bb_Mo_begin 109 = .ok (.iinc 2 1, 3) := by decide +kernel
theorem dd_Mo_begin_112 : decode bb_Mo_begin 112 = .ok (.goto (-42), 3) := by decide +kernel
theorem dd_Mo_begin_115 : decode bb_Mo_begin 115 = .ok (.aload_n 0, 1) := by decide +kernel
theorem dd_Mo_begin_116 : decode bb_Mo_begin 116 = .ok (.getfield 69, 3) := by decide +kernel
theorem dd_Mo_begin_119 : decode bb_Mo_begin 119 = .ok (.iload_n 1, 1) := by decide +kernel
theorem dd_Mo_begin_120 : decode bb_Mo_begin 120 = .ok (.iaload, 1) := by decide +kernel
theorem dd_Mo_begin_121 : decode bb_Mo_begin 121 = .ok (.ireturn, 1) := by decide +kernel
theorem dd_Mo_get_0 : decode bb_Mo_get 0 = .ok (.aload_n 0, 1) := by decide +kernel
theorem dd_Mo_get_1 : decode bb_Mo_get 1 = .ok (.iconst 0, 1) := by decide +kernel
theorem dd_Mo_get_2 : decode bb_Mo_get 2 = .ok (.putfield 93, 3) := by decide +kernel
theorem dd_Mo_get_5 : decode bb_Mo_get 5 = .ok (.aload_n 0, 1) := by decide +kernel
theorem dd_Mo_get_6 : decode bb_Mo_get 6 = .ok (.iload_n 1, 1) := by decide +kernel
theorem dd_Mo_get_7 : decode bb_Mo_get 7 = .ok (.invokevirtual 131, 3) := by decide +kernel
theorem dd_Mo_get_10 : decode bb_Mo_get 10 = .ok (.ifCond .eq 10, 3) := by decide +kernel
theorem dd_Mo_get_13 : decode bb_Mo_get 13 = .ok (.iload_n 2, 1) := by decide +kernel
theorem dd_Mo_get_14 : decode bb_Mo_get 14 = .ok (.invokestatic 142, 3) := by decide +kernel
theorem dd_Mo_get_17 : decode bb_Mo_get 17 = .ok (.ifCond .ne 9, 3) := by decide +kernel
theorem dd_Mo_get_20 : decode bb_Mo_get 20 = .ok (.aload_n 0, 1) := by decide +kernel
theorem dd_Mo_get_21 : decode bb_Mo_get 21 = .ok (.iconst 1, 1) := by decide +kernel
theorem dd_Mo_get_22 : decode bb_Mo_get 22 = .ok (.invokevirtual 134, 3) := by decide +kernel
theorem dd_Mo_get_25 : decode bb_Mo_get 25 = .ok (.ireturn, 1) := by decide +kernel
theorem dd_Mo_get_26 : decode bb_Mo_get 26 = .ok (.aload_n 0, 1) := by decide +kernel
theorem dd_Mo_get_27 : decode bb_Mo_get 27 = .ok (.getfield 66, 3) := by decide +kernel
theorem dd_Mo_get_30 : decode bb_Mo_get 30 = .ok (.iload_n 1, 1) := by decide +kernel
theorem dd_Mo_get_31 : decode bb_Mo_get 31 = .ok (.iaload, 1) := by decide +kernel
theorem dd_Mo_get_32 : decode bb_Mo_get 32 = .ok (.iconst 1, 1) := by decide +kernel
theorem dd_Mo_get_33 : decode bb_Mo_get 33 = .ok (.if_icmp .eq 9, 3) := by decide +kernel
theorem dd_Mo_get_36 : decode bb_Mo_get 36 = .ok (.aload_n 0, 1) := by decide +kernel
theorem dd_Mo_get_37 : decode bb_Mo_get 37 = .ok (.iconst 2, 1) := by decide +kernel
theorem dd_Mo_get_38 : decode bb_Mo_get 38 = .ok (.invokevirtual 134, 3) := by decide +kernel
theorem dd_Mo_get_41 : decode bb_Mo_get 41 = .ok (.ireturn, 1) := by decide +kernel
theorem dd_Mo_get_42 : decode bb_Mo_get 42 = .ok (.aload_n 0, 1) := by decide +kernel
theorem dd_Mo_get_43 : decode bb_Mo_get 43 = .ok (.getfield 78, 3) := by decide +kernel
theorem dd_Mo_get_46 : decode bb_Mo_get 46 = .ok (.bipush 12, 2) := by decide +kernel
theorem dd_Mo_get_48 : decode bb_Mo_get 48 = .ok (.iload_n 1, 1) := by decide +kernel
theorem dd_Mo_get_49 : decode bb_Mo_get 49 = .ok (.imul, 1) := by decide +kernel
theorem dd_Mo_get_50 : decode bb_Mo_get 50 = .ok (.iload_n 2, 1) := by decide +kernel
theorem dd_Mo_get_51 : decode bb_Mo_get 51 = .ok (.iadd, 1) := by decide +kernel
theorem dd_Mo_get_52 : decode bb_Mo_get 52 = .ok (.iaload, 1) := by decide +kernel
theorem dd_Mo_get_53 : decode bb_Mo_get 53 = .ok (.istore_n 3, 1) := by decide +kernel
theorem dd_Mo_get_54 : decode bb_Mo_get 54 = .ok (.iload_n 3, 1) := by decide +kernel
theorem dd_Mo_get_55 : decode bb_Mo_get 55 = .ok (.ifCond .le 28, 3) := by decide +kernel
theorem dd_Mo_get_58 : decode bb_Mo_get 58 = .ok (.iload_n 3, 1) := by decide +kernel
theorem dd_Mo_get_59 : decode bb_Mo_get 59 = .ok (.iconst 1, 1) := by decide +kernel
theorem dd_Mo_get_60 : decode bb_Mo_get 60 = .ok (.if_icmp .ne 17, 3) := by decide +kernel
theorem dd_Mo_get_63 : decode bb_Mo_get 63 = .ok (.aload_n 0, 1) := by decide +kernel
theorem dd_Mo_get_64 : decode bb_Mo_get 64 = .ok (.getfield 81, 3) := by decide +kernel
theorem dd_Mo_get_67 : decode bb_Mo_get 67 = .ok (.bipush 12, 2) := by decide +kernel
theorem dd_Mo_get_69 : decode bb_Mo_get 69 = .ok (.iload_n 1, 1) := by decide +kernel
theorem dd_Mo_get_70 : decode bb_Mo_get 70 = .ok (.imul, 1) := by decide +kernel
theorem dd_Mo_get_71 : decode bb_Mo_get 71 = .ok (.iload_n 2, 1) := by decide +kernel
theorem dd_Mo_get_72 : decode bb_Mo_get 72 = .ok (.iadd, 1) := by decide +kernel
theorem dd_Mo_get_73 : decode bb_Mo_get 73 = .ok (.iaload, 1) := by decide +kernel
theorem dd_Mo_get_74 : decode bb_Mo_get 74 = .ok (.goto 8, 3) := by decide +kernel
theorem dd_Mo_get_77 : decode bb_Mo_get 77 = .ok (.aload_n 0, 1) := by decide +kernel
theorem dd_Mo_get_78 : decode bb_Mo_get 78 = .ok (.iconst 3, 1) := by decide +kernel
theorem dd_Mo_get_79 : decode bb_Mo_get 79 = .ok (.invokevirtual 134, 3) := by decide +kernel
theorem dd_Mo_get_82 : decode bb_Mo_get 82 = .ok (.ireturn, 1) := by decide +kernel
theorem dd_Mo_get_83 : decode bb_Mo_get 83 = .ok (.aload_n 0, 1) := by decide +kernel
theorem dd_Mo_get_84 : decode bb_Mo_get 84 = .ok (.getfield 47, 3) := by decide +kernel
theorem dd_Mo_get_87 : decode bb_Mo_get 87 = .ok (.iload_n 2, 1) := by decide +kernel
theorem dd_Mo_get_88 : decode bb_Mo_get 88 = .ok (.iconst 4, 1) := by decide +kernel
theorem dd_Mo_get_89 : decode bb_Mo_get 89 = .ok (.idiv, 1) := by decide +kernel
theorem dd_Mo_get_90 : decode bb_Mo_get 90 = .ok (.baload, 1) := by decide +kernel
theorem dd_Mo_get_91 : decode bb_Mo_get 91 = .ok (.ifCond .eq 9, 3) := by decide +kernel
theorem dd_Mo_get_94 : decode bb_Mo_get 94 = .ok (.aload_n 0, 1) := by decide +kernel
theorem dd_Mo_get_95 : decode bb_Mo_get 95 = .ok (.iconst 2, 1) := by decide +kernel
theorem dd_Mo_get_96 : decode bb_Mo_get 96 = .ok (.invokevirtual 134, 3) := by decide +kernel
theorem dd_Mo_get_99 : decode bb_Mo_get 99 = .ok (.ireturn, 1) := by decide +kernel
theorem dd_Mo_get_100 : decode bb_Mo_get 100 = .ok (.aload_n 0, 1) := by decide +kernel
theorem dd_Mo_get_101 : decode bb_Mo_get 101 = .ok (.getfield 51, 3) := by decide +kernel
theorem dd_Mo_get_104 : decode bb_Mo_get 104 = .ok (.iload_n 2, 1) := by decide +kernel
theorem dd_Mo_get_105 : decode bb_Mo_get 105 = .ok (.iconst 4, 1) := by decide +kernel
theorem dd_Mo_get_106 : decode bb_Mo_get 106 = .ok (.idiv, 1) := by decide +kernel
theorem dd_Mo_get_107 : decode bb_Mo_get 107 = .ok (.iaload, 1) := by decide +kernel
theorem dd_Mo_get_108 : decode bb_Mo_get 108 = .ok (.aload_n 0, 1) := by decide +kernel
theorem dd_Mo_get_109 : decode bb_Mo_get 109 = .ok (.getfield 69, 3) := by decide +kernel
theorem dd_Mo_get_112 : decode bb_Mo_get 112 = .ok (.iload_n 1, 1) := by decide +kernel
theorem dd_Mo_get_113 : decode bb_Mo_get 113 = .ok (.iaload, 1) := by decide +kernel
theorem dd_Mo_get_114 : decode bb_Mo_get 114 = .ok (.if_icmp .le 9, 3) := by decide +kernel
theorem dd_Mo_get_117 : decode bb_Mo_get 117 = .ok (.aload_n 0, 1) := by decide +kernel
theorem dd_Mo_get_118 : decode bb_Mo_get 118 = .ok (.iconst 4, 1) := by decide +kernel
theorem dd_Mo_get_119 : decode bb_Mo_get 119 = .ok (.invokevirtual 134, 3) := by decide +kernel
theorem dd_Mo_get_122 : decode bb_Mo_get 122 = .ok (.ireturn, 1) := by decide +kernel
theorem dd_Mo_get_123 : decode bb_Mo_get 123 = .ok (.aload_n 0, 1) := by decide +kernel
theorem dd_Mo_get_124 : decode bb_Mo_get 124 = .ok (.getfield 13, 3) := by decide +kernel
theorem dd_Mo_get_127 : decode bb_Mo_get 127 = .ok (.iload_n 2, 1) := by decide +kernel
theorem dd_Mo_get_128 : decode bb_Mo_get 128 = .ok (.iaload, 1) := by decide +kernel
theorem dd_Mo_get_129 : decode bb_Mo_get 129 = .ok (.ifCond .le 42, 3) := by decide +kernel
theorem dd_Mo_get_132 : decode bb_Mo_get 132 = .ok (.aload_n 0, 1) := by decide +kernel
theorem dd_Mo_get_133 : decode bb_Mo_get 133 = .ok (.getfield 13, 3) := by decide +kernel
theorem dd_Mo_get_136 : decode bb_Mo_get 136 = .ok (.iload_n 2, 1) := by decide +kernel
theorem dd_Mo_get_137 : decode bb_Mo_get 137 = .ok (.iaload, 1) := by decide +kernel
theorem dd_Mo_get_138 : decode bb_Mo_get 138 = .ok (.aload_n 0, 1) := by decide +kernel
theorem dd_Mo_get_139 : decode bb_Mo_get 139 = .ok (.getfield 69, 3) := by decide +kernel
theorem dd_Mo_get_142 : decode bb_Mo_get 142 = .ok (.iload_n 1, 1) := by decide +kernel
theorem dd_Mo_get_143 : decode bb_Mo_get 143 = .ok (.iaload, 1) := by decide +kernel
theorem dd_Mo_get_144 : decode bb_Mo_get 144 = .ok (.if_icmp .ge 27, 3) := by decide +kernel
theorem dd_Mo_get_147 : decode bb_Mo_get 147 = .ok (.aload_n 0, 1) := by decide +kernel
theorem dd_Mo_get_148 : decode bb_Mo_get 148 = .ok (.iload_n 2, 1) := by decide +kernel
theorem dd_Mo_get_149 : decode bb_Mo_get 149 = .ok (.invokevirtual 145, 3) := by decide +kernel
theorem dd_Mo_get_152 : decode bb_Mo_get 152 = .ok (.istore 4, 2) := by decide +kernel
theorem dd_Mo_get_154 : decode bb_Mo_get 154 = .ok (.iload 4, 2) := by decide +kernel
theorem dd_Mo_get_156 : decode bb_Mo_get 156 = .ok (.iconst 1, 1) := by decide +kernel
theorem dd_Mo_get_157 : decode bb_Mo_get 157 = .ok (.if_icmp .eq 8, 3) := by decide +kernel
theorem dd_Mo_get_160 : decode bb_Mo_get 160 = .ok (.iload 4, 2) := by decide +kernel
theorem dd_Mo_get_162 : decode bb_Mo_get 162 = .ok (.ifCond .ne 9, 3) := by decide +kernel
theorem dd_Mo_get_165 : decode bb_Mo_get 165 = .ok (.aload_n 0, 1) := by decide +kernel
theorem dd_Mo_get_166 : decode bb_Mo_get 166 = .ok (.iconst 2, 1) := by decide +kernel
theorem dd_Mo_get_167 : decode bb_Mo_get 167 = .ok (.invokevirtual 134, 3) := by decide +kernel
theorem dd_Mo_get_170 : decode bb_Mo_get 170 = .ok (.ireturn, 1) := by decide +kernel
theorem dd_Mo_get_171 : decode bb_Mo_get 171 = .ok (.aload_n 0, 1) := by decide +kernel
theorem dd_Mo_get_172 : decode bb_Mo_get 172 = .ok (.iload_n 2, 1) := by decide +kernel
theorem dd_Mo_get_173 : decode bb_Mo_get 173 = .ok (.aload_n 0, 1) := by decide +kernel
theorem dd_Mo_get_174 : decode bb_Mo_get 174 = .ok (.getfield 69, 3) := by decide +kernel
theorem dd_Mo_get_177 : decode bb_Mo_get 177 = .ok (.iload_n 1, 1) := by decide +kernel
theorem dd_Mo_get_178 : decode bb_Mo_get 178 = .ok (.iaload, 1) := by decide +kernel
theorem dd_Mo_get_179 : decode bb_Mo_get 179 = .ok (.invokevirtual 148, 3) := by decide +kernel
theorem dd_Mo_get_182 : decode bb_Mo_get 182 = .ok (.istore 4, 2) := by decide +kernel
theorem dd_Mo_get_184 : decode bb_Mo_get 184 = .ok (.iload 4, 2) := by decide +kernel
theorem dd_Mo_get_186 : decode bb_Mo_get 186 = .ok (.ifCond .lt 14, 3) := by decide +kernel
theorem dd_Mo_get_189 : decode bb_Mo_get 189 = .ok (.aload_n 0, 1) := by decide +kernel
theorem dd_Mo_get_190 : decode bb_Mo_get 190 = .ok (.getfield 41, 3) := by decide +kernel
theorem dd_Mo_get_193 : decode bb_Mo_get 193 = .ok (.iload 4, 2) := by decide +kernel
theorem dd_Mo_get_195 : decode bb_Mo_get 195 = .ok (.iaload, 1) := by decide +kernel
theorem dd_Mo_get_196 : decode bb_Mo_get 196 = .ok (.iconst 2, 1) := by decide +kernel
theorem dd_Mo_get_197 : decode bb_Mo_get 197 = .ok (.if_icmp .ne 11, 3) := by decide +kernel
theorem dd_Mo_get_200 : decode bb_Mo_get 200 = .ok (.aload_n 0, 1) := by decide +kernel
theorem dd_Mo_get_201 : decode bb_Mo_get 201 = .ok (.iconst 3, 1) := by decide +kernel
theorem dd_Mo_get_202 : decode bb_Mo_get 202 = .ok (.invokevirtual 134, 3) := by decide +kernel
theorem dd_Mo_get_205 : decode bb_Mo_get 205 = .ok (.goto 10, 3) := by decide +kernel
theorem dd_Mo_get_208 : decode bb_Mo_get 208 = .ok (.aload_n 0, 1) := by decide +kernel
theorem dd_Mo_get_209 : decode bb_Mo_get 209 = .ok (.getfield 44, 3) := by decide +kernel
theorem dd_Mo_get_212 : decode bb_Mo_get 212 = .ok (.iload 4, 2) := by decide +kernel
theorem dd_Mo_get_214 : decode bb_Mo_get 214 = .ok (.iaload, 1) := by decide +kernel
theorem dd_Mo_get_215 : decode bb_Mo_get 215 = .ok (.ireturn, 1) := by decide +kernel
theorem dd_Mo_change_0 : decode bb_Mo_change 0 = .ok (.aload_n 0, 1) := by decide +kernel
theorem dd_Mo_change_1 : decode bb_Mo_change 1 = .ok (.iconst 0, 1) := by decide +kernel
theorem dd_Mo_change_2 : decode bb_Mo_change 2 = .ok (.putfield 93, 3) := by decide +kernel
theorem dd_Mo_change_5 : decode bb_Mo_change 5 = .ok (.aload_n 0, 1) := by decide +kernel
theorem dd_Mo_change_6 : decode bb_Mo_change 6 = .ok (.iload_n 1, 1) := by decide +kernel
theorem dd_Mo_change_7 : decode bb_Mo_change 7 = .ok (.invokevirtual 131, 3) := by decide +kernel
theorem dd_Mo_change_10 : decode bb_Mo_change 10 = .ok (.ifCond .eq 10, 3) := by decide +kernel
theorem dd_Mo_change_13 : decode bb_Mo_change 13 = .ok (.iload_n 2, 1) := by decide +kernel
theorem dd_Mo_change_14 : decode bb_Mo_change 14 = .ok (.invokestatic 142, 3) := by decide +kernel
theorem dd_Mo_change_17 : decode bb_Mo_change 17 = .ok (.ifCond .ne 11, 3) := by decide +kernel
theorem dd_Mo_change_20 : decode bb_Mo_change 20 = .ok (.aload_n 0, 1) := by decide +kernel
theorem dd_Mo_change_21 : decode bb_Mo_change 21 = .ok (.iconst 1, 1) := by decide +kernel
theorem dd_Mo_change_22 : decode bb_Mo_change 22 = .ok (.putfield 93, 3) := by decide +kernel
theorem dd_Mo_change_25 : decode bb_Mo_change 25 = .ok (.goto 46, 3) := by decide +kernel
theorem dd_Mo_change_28 : decode bb_Mo_change 28 = .ok (.aload_n 0, 1) := by decide +kernel
theorem dd_Mo_change_29 : decode bb_Mo_change 29 = .ok (.getfield 66, 3) := by decide +kernel
theorem dd_Mo_change_32 : decode bb_Mo_change 32 = .ok (.iload_n 1, 1) := by decide +kernel
theorem dd_Mo_change_33 : decode bb_Mo_change 33 = .ok (.iaload, 1) := by decide +kernel
theorem dd_Mo_change_34 : decode bb_Mo_change 34 = .ok (.iconst 1, 1) := by decide +kernel
theorem dd_Mo_change_35 : decode bb_Mo_change 35 = .ok (.if_icmp .eq 11, 3) := by decide +kernel
theorem dd_Mo_change_38 : decode bb_Mo_change 38 = .ok (.aload_n 0, 1) := by decide +kernel
theorem dd_Mo_change_39 : decode bb_Mo_change 39 = .ok (.iconst 2, 1) := by decide +kernel
theorem dd_Mo_change_40 : decode bb_Mo_change 40 = .ok (.putfield 93, 3) := by decide +kernel
theorem dd_Mo_change_43 : decode bb_Mo_change 43 = .ok (.goto 28, 3) := by decide +kernel
theorem dd_Mo_change_46 : decode bb_Mo_change 46 = .ok (.aload_n 0, 1) := by decide +kernel
theorem dd_Mo_change_47 : decode bb_Mo_change 47 = .ok (.getfield 78, 3) := by decide +kernel
theorem dd_Mo_change_50 : decode bb_Mo_change 50 = .ok (.bipush 12, 2) := by decide +kernel
theorem dd_Mo_change_52 : decode bb_Mo_change 52 = .ok (.iload_n 1, 1) := by decide +kernel
theorem dd_Mo_change_53 : decode bb_Mo_change 53 = .ok (.imul, 1) := by decide +kernel
theorem dd_Mo_change_54 : decode bb_Mo_change 54 = .ok (.iload_n 2, 1) := by decide +kernel
theorem dd_Mo_change_55 : decode bb_Mo_change 55 = .ok (.iadd, 1) := by decide +kernel
theorem dd_Mo_change_56 : decode bb_Mo_change 56 = .ok (.iload_n 3, 1) := by decide +kernel
theorem dd_Mo_change_57 : decode bb_Mo_change 57 = .ok (.iastore, 1) := by decide +kernel
theorem dd_Mo_change_58 : decode bb_Mo_change 58 = .ok (.aload_n 0, 1) := by decide +kernel
theorem dd_Mo_change_59 : decode bb_Mo_change 59 = .ok (.getfield 81, 3) := by decide +kernel
theorem dd_Mo_change_62 : decode bb_Mo_change 62 = .ok (.bipush 12, 2) := by decide +kernel
theorem dd_Mo_change_64 : decode bb_Mo_change 64 = .ok (.iload_n 1, 1) := by decide +kernel
theorem dd_Mo_change_65 : decode bb_Mo_change 65 = .ok (.imul, 1) := by decide +kernel
theorem dd_Mo_change_66 : decode bb_Mo_change 66 = .ok (.iload_n 2, 1) := by decide +kernel
theorem dd_Mo_change_67 : decode bb_Mo_change 67 = .ok (.iadd, 1) := by decide +kernel
theorem dd_Mo_change_68 : decode bb_Mo_change 68 = .ok (.iload 4, 2) := by decide +kernel
theorem dd_Mo_change_70 : decode bb_Mo_change 70 = .ok (.iastore, 1) := by decide +kernel
theorem dd_Mo_change_71 : decode bb_Mo_change 71 = .ok (.return_, 1) := by decide +kernel
theorem dd_Mo_set_0 : decode bb_Mo_set 0 = .ok (.aload_n 0, 1) := by decide +kernel
theorem dd_Mo_set_1 : decode bb_Mo_set 1 = .ok (.iload_n 1, 1) := by decide +kernel
theorem dd_Mo_set_2 : decode bb_Mo_set 2 = .ok (.iload_n 2, 1) := by decide +kernel
theorem dd_Mo_set_3 : decode bb_Mo_set 3 = .ok (.iconst 1, 1) := by decide +kernel
theorem dd_Mo_set_4 : decode bb_Mo_set 4 = .ok (.iload_n 3, 1) := by decide +kernel
theorem dd_Mo_set_5 : decode bb_Mo_set 5 = .ok (.invokevirtual 151, 3) := by decide +kernel
theorem dd_Mo_set_8 : decode bb_Mo_set 8 = .ok (.return_, 1) := by decide +kernel
theorem dd_Mo_erase_0 : decode bb_Mo_erase 0 = .ok (.aload_n 0, 1) := by decide +kernel
theorem dd_Mo_erase_1 : decode bb_Mo_erase 1 = .ok (.iload_n 1, 1) := by decide +kernel
theorem dd_Mo_erase_2 : decode bb_Mo_erase 2 = .ok (.iload_n 2, 1) := by decide +kernel
theorem dd_Mo_erase_3 : decode bb_Mo_erase 3 = .ok (.iconst 2, 1) := by decide +kernel
theorem dd_Mo_erase_4 : decode bb_Mo_erase 4 = .ok (.iconst 0, 1) := by decide +kernel
theorem dd_Mo_erase_5 : decode bb_Mo_erase 5 = .ok (.invokevirtual 151, 3) := by decide +kernel
theorem dd_Mo_erase_8 : decode bb_Mo_erase 8 = .ok (.return_, 1) := by decide +kernel
theorem dd_Mo_first_0 : decode bb_Mo_first 0 = .ok (.iconst 0, 1) := by decide +kernel
theorem dd_Mo_first_1 : decode bb_Mo_first 1 = .ok (.istore_n 2, 1) := by decide +kernel
theorem dd_Mo_first_2 : decode bb_Mo_first 2 = .ok (.iload_n 2, 1) := by decide +kernel
theorem dd_Mo_first_3 : decode bb_Mo_first 3 = .ok (.bipush 11, 2) := by decide +kernel
theorem dd_Mo_first_5 : decode bb_Mo_first 5 = .ok (.if_icmp .ge 23, 3) := by decide +kernel
theorem dd_Mo_first_8 : decode bb_Mo_first 8 = .ok (.aload_n 0, 1) := by decide +kernel
theorem dd_Mo_first_9 : decode bb_Mo_first 9 = .ok (.getfield 78, 3) := by decide +kernel
theorem dd_Mo_first_12 : decode bb_Mo_first 12 = .ok (.bipush 12, 2) := by decide +kernel
theorem dd_Mo_first_14 : decode bb_Mo_first 14 = .ok (.iload_n 1, 1) := by decide +kernel
theorem dd_Mo_first_15 : decode bb_Mo_first 15 = .ok (.imul, 1) := by decide +kernel
theorem dd_Mo_first_16 : decode bb_Mo_first 16 = .ok (.iload_n 2, 1) := by decide +kernel
theorem dd_Mo_first_17 : decode bb_Mo_first 17 = .ok (.iadd, 1) := by decide +kernel
theorem dd_Mo_first_18 : decode bb_Mo_first 18 = .ok (.iaload, 1) := by decide +kernel
theorem dd_Mo_first_19 : decode bb_Mo_first 19 = .ok (.ifCond .ne 9, 3) := by decide +kernel
theorem dd_Mo_first_22 : decode bb_Mo_first 22 = .ok (.iinc 2 1, 3) := by decide +kernel
theorem dd_Mo_first_25 : decode bb_Mo_first 25 = .ok (.goto (-23), 3) := by decide +kernel
theorem dd_Mo_first_28 : decode bb_Mo_first 28 = .ok (.iload_n 2, 1) := by decide +kernel
theorem dd_Mo_first_29 : decode bb_Mo_first 29 = .ok (.ireturn, 1) := by decide +kernel
theorem dd_Mo_nextCell_0 : decode bb_Mo_nextCell 0 = .ok (.aload_n 0, 1) := by decide +kernel
theorem dd_Mo_nextCell_1 : decode bb_Mo_nextCell 1 = .ok (.iload_n 1, 1) := by decide +kernel
theorem dd_Mo_nextCell_2 : decode bb_Mo_nextCell 2 = .ok (.invokevirtual 155, 3) := by decide +kernel
theorem dd_Mo_nextCell_5 : decode bb_Mo_nextCell 5 = .ok (.istore_n 3, 1) := by decide +kernel
theorem dd_Mo_nextCell_6 : decode bb_Mo_nextCell 6 = .ok (.iconst 0, 1) := by decide +kernel
theorem dd_Mo_nextCell_7 : decode bb_Mo_nextCell 7 = .ok (.istore 4, 2) := by decide +kernel
theorem dd_Mo_nextCell_9 : decode bb_Mo_nextCell 9 = .ok (.iload 4, 2) := by decide +kernel
theorem dd_Mo_nextCell_11 : decode bb_Mo_nextCell 11 = .ok (.bipush 12, 2) := by decide +kernel
theorem dd_Mo_nextCell_13 : decode bb_Mo_nextCell 13 = .ok (.if_icmp .ge 81, 3) := by decide +kernel
theorem dd_Mo_nextCell_16 : decode bb_Mo_nextCell 16 = .ok (.bipush 12, 2) := by decide +kernel
theorem dd_Mo_nextCell_18 : decode bb_Mo_nextCell 18 = .ok (.iload_n 1, 1) := by decide +kernel
theorem dd_Mo_nextCell_19 : decode bb_Mo_nextCell 19 = .ok (.imul, 1) := by decide +kernel
theorem dd_Mo_nextCell_20 : decode bb_Mo_nextCell 20 = .ok (.iload 4, 2) := by decide +kernel
theorem dd_Mo_nextCell_22 : decode bb_Mo_nextCell 22 = .ok (.iadd, 1) := by decide +kernel
theorem dd_Mo_nextCell_23 : decode bb_Mo_nextCell 23 = .ok (.istore 5, 2) := by decide +kernel
theorem dd_Mo_nextCell_25 : decode bb_Mo_nextCell 25 = .ok (.iload_n 2, 1) := by decide +kernel
theorem dd_Mo_nextCell_26 : decode bb_Mo_nextCell 26 = .ok (.ifCond .eq 27, 3) := by decide +kernel
theorem dd_Mo_nextCell_29 : decode bb_Mo_nextCell 29 = .ok (.iload 4, 2) := by decide +kernel
theorem dd_Mo_nextCell_31 : decode bb_Mo_nextCell 31 = .ok (.iload_n 3, 1) := by decide +kernel
theorem dd_Mo_nextCell_32 : decode bb_Mo_nextCell 32 = .ok (.if_icmp .eq 17, 3) := by decide +kernel
theorem dd_Mo_nextCell_35 : decode bb_Mo_nextCell 35 = .ok (.aload_n 0, 1) := by decide +kernel
theorem dd_Mo_nextCell_36 : decode bb_Mo_nextCell 36 = .ok (.getfield 87, 3) := by decide +kernel
theorem dd_Mo_nextCell_39 : decode bb_Mo_nextCell 39 = .ok (.iload 5, 2) := by decide +kernel
theorem dd_Mo_nextCell_41 : decode bb_Mo_nextCell 41 = .ok (.baload, 1) := by decide +kernel
theorem dd_Mo_nextCell_42 : decode bb_Mo_nextCell 42 = .ok (.ifCond .ne 7, 3) := by decide +kernel
theorem dd_Mo_nextCell_45 : decode bb_Mo_nextCell 45 = .ok (.iconst 1, 1) := by decide +kernel
theorem dd_Mo_nextCell_46 : decode bb_Mo_nextCell 46 = .ok (.goto 22, 3) := by decide +kernel
theorem dd_Mo_nextCell_49 : decode bb_Mo_nextCell 49 = .ok (.iconst 0, 1) := by decide +kernel
theorem dd_Mo_nextCell_50 : decode bb_Mo_nextCell 50 = .ok (.goto 18, 3) := by decide +kernel
theorem dd_Mo_nextCell_53 : decode bb_Mo_nextCell 53 = .ok (.aload_n 0, 1) := by decide +kernel
theorem dd_Mo_nextCell_54 : decode bb_Mo_nextCell 54 = .ok (.getfield 84, 3) := by decide +kernel
theorem dd_Mo_nextCell_57 : decode bb_Mo_nextCell 57 = .ok (.iload 5, 2) := by decide +kernel
theorem dd_Mo_nextCell_59 : decode bb_Mo_nextCell 59 = .ok (.baload, 1) := by decide +kernel
theorem dd_Mo_nextCell_60 : decode bb_Mo_nextCell 60 = .ok (.ifCond .ne 7, 3) := by decide +kernel
theorem dd_Mo_nextCell_63 : decode bb_Mo_nextCell 63 = .ok (.iconst 1, 1) := by decide +kernel
theorem dd_Mo_nextCell_64 : decode bb_Mo_nextCell 64 = .ok (.goto 4, 3) := by decide +kernel
theorem dd_Mo_nextCell_67 : decode bb_Mo_nextCell 67 = .ok (.iconst 0, 1) := by decide +kernel
theorem dd_Mo_nextCell_68 : decode bb_Mo_nextCell 68 = .ok (.istore 6, 2) := by decide +kernel
theorem dd_Mo_nextCell_70 : decode bb_Mo_nextCell 70 = .ok (.aload_n 0, 1) := by decide +kernel
theorem dd_Mo_nextCell_71 : decode bb_Mo_nextCell 71 = .ok (.getfield 78, 3) := by decide +kernel
theorem dd_Mo_nextCell_74 : decode bb_Mo_nextCell 74 = .ok (.iload 5, 2) := by decide +kernel
theorem dd_Mo_nextCell_76 : decode bb_Mo_nextCell 76 = .ok (.iaload, 1) := by decide +kernel
theorem dd_Mo_nextCell_77 : decode bb_Mo_nextCell 77 = .ok (.ifCond .le 11, 3) := by decide +kernel
theorem dd_Mo_nextCell_80 : decode bb_Mo_nextCell 80 = .ok (.iload 6, 2) := by decide +kernel
theorem dd_Mo_nextCell_82 : decode bb_Mo_nextCell 82 = .ok (.ifCond .eq 6, 3) := by decide +kernel
theorem dd_Mo_nextCell_85 : decode bb_Mo_nextCell 85 = .ok (.iload 4, 2) := by decide +kernel
theorem dd_Mo_nextCell_87 : decode bb_Mo_nextCell 87 = .ok (.ireturn, 1) := by decide +kernel
theorem dd_Mo_nextCell_88 : decode bb_Mo_nextCell 88 = .ok (.iinc 4 1, 3) := by decide +kernel
theorem dd_Mo_nextCell_91 : decode bb_Mo_nextCell 91 = .ok (.goto (-82), 3) := by decide +kernel
theorem dd_Mo_nextCell_94 : decode bb_Mo_nextCell 94 = .ok (.bipush 12, 2) := by decide +kernel
theorem dd_Mo_nextCell_96 : decode bb_Mo_nextCell 96 = .ok (.ireturn, 1) := by decide +kernel
theorem dd_Mo_ends_0 : decode bb_Mo_ends 0 = .ok (.aload_n 0, 1) := by decide +kernel
theorem dd_Mo_ends_1 : decode bb_Mo_ends 1 = .ok (.getfield 66, 3) := by decide +kernel
theorem dd_Mo_ends_4 : decode bb_Mo_ends 4 = .ok (.iload_n 1, 1) := by decide +kernel
theorem dd_Mo_ends_5 : decode bb_Mo_ends 5 = .ok (.iconst 0, 1) := by decide +kernel
theorem dd_Mo_ends_6 : decode bb_Mo_ends 6 = .ok (.iastore, 1) := by decide +kernel
theorem dd_Mo_ends_7 : decode bb_Mo_ends 7 = .ok (.iload_n 2, 1) := by decide +kernel
theorem dd_Mo_ends_8 : decode bb_Mo_ends 8 = .ok (.ireturn, 1) := by decide +kernel
end
section
theorem dd_Mo_init_0 : decode bb_Mo_init 0 = .ok (.aload_n 0, 1) := by decide +kernel
theorem dd_Mo_init_1 : decode bb_Mo_init 1 = .ok (.invokespecial 1, 3) := by decide +kernel
theorem dd_Mo_init_4 : decode bb_Mo_init 4 = .ok (.aload_n 0, 1) := by decide +kernel
theorem dd_Mo_init_5 : decode bb_Mo_init 5 = .ok (.iconst 1, 1) := by decide +kernel
theorem dd_Mo_init_6 : decode bb_Mo_init 6 = .ok (.putfield 7, 3) := by decide +kernel
theorem dd_Mo_init_9 : decode bb_Mo_init 9 = .ok (.aload_n 0, 1) := by decide +kernel
theorem dd_Mo_init_10 : decode bb_Mo_init 10 = .ok (.bipush 12, 2) := by decide +kernel
theorem dd_Mo_init_12 : decode bb_Mo_init 12 = .ok (.newarray .int, 2) := by decide +kernel
theorem dd_Mo_init_14 : decode bb_Mo_init 14 = .ok (.putfield 13, 3) := by decide +kernel
theorem dd_Mo_init_17 : decode bb_Mo_init 17 = .ok (.aload_n 0, 1) := by decide +kernel
theorem dd_Mo_init_18 : decode bb_Mo_init 18 = .ok (.bipush 12, 2) := by decide +kernel
theorem dd_Mo_init_20 : decode bb_Mo_init 20 = .ok (.newarray .int, 2) := by decide +kernel
theorem dd_Mo_init_22 : decode bb_Mo_init 22 = .ok (.putfield 17, 3) := by decide +kernel
theorem dd_Mo_init_25 : decode bb_Mo_init 25 = .ok (.aload_n 0, 1) := by decide +kernel
theorem dd_Mo_init_26 : decode bb_Mo_init 26 = .ok (.bipush 12, 2) := by decide +kernel
theorem dd_Mo_init_28 : decode bb_Mo_init 28 = .ok (.newarray .int, 2) := by decide +kernel
theorem dd_Mo_init_30 : decode bb_Mo_init 30 = .ok (.putfield 20, 3) := by decide +kernel
theorem dd_Mo_init_33 : decode bb_Mo_init 33 = .ok (.aload_n 0, 1) := by decide +kernel
theorem dd_Mo_init_34 : decode bb_Mo_init 34 = .ok (.bipush 12, 2) := by decide +kernel
theorem dd_Mo_init_36 : decode bb_Mo_init 36 = .ok (.newarray .int, 2) := by decide +kernel
theorem dd_Mo_init_38 : decode bb_Mo_init 38 = .ok (.putfield 23, 3) := by decide +kernel
theorem dd_Mo_init_41 : decode bb_Mo_init 41 = .ok (.aload_n 0, 1) := by decide +kernel
theorem dd_Mo_init_42 : decode bb_Mo_init 42 = .ok (.bipush 12, 2) := by decide +kernel
theorem dd_Mo_init_44 : decode bb_Mo_init 44 = .ok (.newarray .int, 2) := by decide +kernel
theorem dd_Mo_init_46 : decode bb_Mo_init 46 = .ok (.putfield 26, 3) := by decide +kernel
theorem dd_Mo_init_49 : decode bb_Mo_init 49 = .ok (.aload_n 0, 1) := by decide +kernel
theorem dd_Mo_init_50 : decode bb_Mo_init 50 = .ok (.bipush 12, 2) := by decide +kernel
theorem dd_Mo_init_52 : decode bb_Mo_init 52 = .ok (.newarray .int, 2) := by decide +kernel
theorem dd_Mo_init_54 : decode bb_Mo_init 54 = .ok (.putfield 29, 3) := by decide +kernel
theorem dd_Mo_init_57 : decode bb_Mo_init 57 = .ok (.aload_n 0, 1) := by decide +kernel
theorem dd_Mo_init_58 : decode bb_Mo_init 58 = .ok (.sipush 1540, 3) := by decide +kernel
theorem dd_Mo_init_61 : decode bb_Mo_init 61 = .ok (.newarray .int, 2) := by decide +kernel
theorem dd_Mo_init_63 : decode bb_Mo_init 63 = .ok (.putfield 32, 3) := by decide +kernel
theorem dd_Mo_init_66 : decode bb_Mo_init 66 = .ok (.aload_n 0, 1) := by decide +kernel
theorem dd_Mo_init_67 : decode bb_Mo_init 67 = .ok (.sipush 1540, 3) := by decide +kernel
theorem dd_Mo_init_70 : decode bb_Mo_init 70 = .ok (.newarray .int, 2) := by decide +kernel
theorem dd_Mo_init_72 : decode bb_Mo_init 72 = .ok (.putfield 35, 3) := by decide +kernel
theorem dd_Mo_init_75 : decode bb_Mo_init 75 = .ok (.aload_n 0, 1) := by decide +kernel
theorem dd_Mo_init_76 : decode bb_Mo_init 76 = .ok (.sipush 1540, 3) := by decide +kernel
theorem dd_Mo_init_79 : decode bb_Mo_init 79 = .ok (.newarray .int, 2) := by decide +kernel
theorem dd_Mo_init_81 : decode bb_Mo_init 81 = .ok (.putfield 38, 3) := by decide +kernel
theorem dd_Mo_init_84 : decode bb_Mo_init 84 = .ok (.aload_n 0, 1) := by decide +kernel
theorem dd_Mo_init_85 : decode bb_Mo_init 85 = .ok (.sipush 1540, 3) := by decide +kernel
theorem dd_Mo_init_88 : decode bb_Mo_init 88 = .ok (.newarray .int, 2) := by decide +kernel
theorem dd_Mo_init_90 : decode bb_Mo_init 90 = .ok (.putfield 41, 3) := by decide +kernel
theorem dd_Mo_init_93 : decode bb_Mo_init 93 = .ok (.aload_n 0, 1) := by decide +kernel
theorem dd_Mo_init_94 : decode bb_Mo_init 94 = .ok (.sipush 1540, 3) := by decide +kernel
theorem dd_Mo_init_97 : decode bb_Mo_init 97 = .ok (.newarray .int, 2) := by decide +kernel
theorem dd_Mo_init_99 : decode bb_Mo_init 99 = .ok (.putfield 44, 3) := by decide +kernel
theorem dd_Mo_init_102 : decode bb_Mo_init 102 = .ok (.aload_n 0, 1) := by decide +kernel
theorem dd_Mo_init_103 : decode bb_Mo_init 103 = .ok (.iconst 3, 1) := by decide +kernel
theorem dd_Mo_init_104 : decode bb_Mo_init 104 = .ok (.newarray .boolean, 2) := by decide +kernel
theorem dd_Mo_init_106 : decode bb_Mo_init 106 = .ok (.putfield 47, 3) := by decide +kernel
theorem dd_Mo_init_109 : decode bb_Mo_init 109 = .ok (.aload_n 0, 1) := by decide +kernel
theorem dd_Mo_init_110 : decode bb_Mo_init 110 = .ok (.iconst 3, 1) := by decide +kernel
theorem dd_Mo_init_111 : decode bb_Mo_init 111 = .ok (.newarray .int, 2) := by decide +kernel
theorem dd_Mo_init_113 : decode bb_Mo_init 113 = .ok (.putfield 51, 3) := by decide +kernel
theorem dd_Mo_init_116 : decode bb_Mo_init 116 = .ok (.aload_n 0, 1) := by decide +kernel
theorem dd_Mo_init_117 : decode bb_Mo_init 117 = .ok (.iconst 3, 1) := by decide +kernel
theorem dd_Mo_init_118 : decode bb_Mo_init 118 = .ok (.newarray .int, 2) := by decide +kernel
theorem dd_Mo_init_120 : decode bb_Mo_init 120 = .ok (.putfield 54, 3) := by decide +kernel
theorem dd_Mo_init_123 : decode bb_Mo_init 123 = .ok (.aload_n 0, 1) := by decide +kernel
theorem dd_Mo_init_124 : decode bb_Mo_init 124 = .ok (.iconst 3, 1) := by decide +kernel
theorem dd_Mo_init_125 : decode bb_Mo_init 125 = .ok (.newarray .int, 2) := by decide +kernel
theorem dd_Mo_init_127 : decode bb_Mo_init 127 = .ok (.putfield 57, 3) := by decide +kernel
theorem dd_Mo_init_130 : decode bb_Mo_init 130 = .ok (.aload_n 0, 1) := by decide +kernel
theorem dd_Mo_init_131 : decode bb_Mo_init 131 = .ok (.iconst 3, 1) := by decide +kernel
theorem dd_Mo_init_132 : decode bb_Mo_init 132 = .ok (.newarray .int, 2) := by decide +kernel
theorem dd_Mo_init_134 : decode bb_Mo_init 134 = .ok (.putfield 60, 3) := by decide +kernel
theorem dd_Mo_init_137 : decode bb_Mo_init 137 = .ok (.aload_n 0, 1) := by decide +kernel
theorem dd_Mo_init_138 : decode bb_Mo_init 138 = .ok (.iconst 3, 1) := by decide +kernel
theorem dd_Mo_init_139 : decode bb_Mo_init 139 = .ok (.newarray .boolean, 2) := by decide +kernel
theorem dd_Mo_init_141 : decode bb_Mo_init 141 = .ok (.putfield 63, 3) := by decide +kernel
theorem dd_Mo_init_144 : decode bb_Mo_init 144 = .ok (.aload_n 0, 1) := by decide +kernel
theorem dd_Mo_init_145 : decode bb_Mo_init 145 = .ok (.iconst 4, 1) := by decide +kernel
theorem dd_Mo_init_146 : decode bb_Mo_init 146 = .ok (.newarray .int, 2) := by decide +kernel
theorem dd_Mo_init_148 : decode bb_Mo_init 148 = .ok (.putfield 66, 3) := by decide +kernel
theorem dd_Mo_init_151 : decode bb_Mo_init 151 = .ok (.aload_n 0, 1) := by decide +kernel
theorem dd_Mo_init_152 : decode bb_Mo_init 152 = .ok (.iconst 4, 1) := by decide +kernel
theorem dd_Mo_init_153 : decode bb_Mo_init 153 = .ok (.newarray .int, 2) := by decide +kernel
theorem dd_Mo_init_155 : decode bb_Mo_init 155 = .ok (.putfield 69, 3) := by decide +kernel
theorem dd_Mo_init_158 : decode bb_Mo_init 158 = .ok (.aload_n 0, 1) := by decide +kernel
theorem dd_Mo_init_159 : decode bb_Mo_init 159 = .ok (.iconst 4, 1) := by decide +kernel
theorem dd_Mo_init_160 : decode bb_Mo_init 160 = .ok (.newarray .int, 2) := by decide +kernel
theorem dd_Mo_init_162 : decode bb_Mo_init 162 = .ok (.putfield 72, 3) := by decide +kernel
theorem dd_Mo_init_165 : decode bb_Mo_init 165 = .ok (.aload_n 0, 1) := by decide +kernel
theorem dd_Mo_init_166 : decode bb_Mo_init 166 = .ok (.iconst 4, 1) := by decide +kernel
theorem dd_Mo_init_167 : decode bb_Mo_init 167 = .ok (.newarray .boolean, 2) := by decide +kernel
theorem dd_Mo_init_169 : decode bb_Mo_init 169 = .ok (.putfield 75, 3) := by decide +kernel
theorem dd_Mo_init_172 : decode bb_Mo_init 172 = .ok (.aload_n 0, 1) := by decide +kernel
theorem dd_Mo_init_173 : decode bb_Mo_init 173 = .ok (.bipush 48, 2) := by decide +kernel
theorem dd_Mo_init_175 : decode bb_Mo_init 175 = .ok (.newarray .int, 2) := by decide +kernel
theorem dd_Mo_init_177 : decode bb_Mo_init 177 = .ok (.putfield 78, 3) := by decide +kernel
theorem dd_Mo_init_180 : decode bb_Mo_init 180 = .ok (.aload_n 0, 1) := by decide +kernel
theorem dd_Mo_init_181 : decode bb_Mo_init 181 = .ok (.bipush 48, 2) := by decide +kernel
theorem dd_Mo_init_183 : decode bb_Mo_init 183 = .ok (.newarray .int, 2) := by decide +kernel
theorem dd_Mo_init_185 : decode bb_Mo_init 185 = .ok (.putfield 81, 3) := by decide +kernel
theorem dd_Mo_init_188 : decode bb_Mo_init 188 = .ok (.aload_n 0, 1) := by decide +kernel
theorem dd_Mo_init_189 : decode bb_Mo_init 189 = .ok (.bipush 48, 2) := by decide +kernel
theorem dd_Mo_init_191 : decode bb_Mo_init 191 = .ok (.newarray .boolean, 2) := by decide +kernel
theorem dd_Mo_init_193 : decode bb_Mo_init 193 = .ok (.putfield 84, 3) := by decide +kernel
theorem dd_Mo_init_196 : decode bb_Mo_init 196 = .ok (.aload_n 0, 1) := by decide +kernel
theorem dd_Mo_init_197 : decode bb_Mo_init 197 = .ok (.bipush 48, 2) := by decide +kernel
theorem dd_Mo_init_199 : decode bb_Mo_init 199 = .ok (.newarray .boolean, 2) := by decide +kernel
theorem dd_Mo_init_201 : decode bb_Mo_init 201 = .ok (.putfield 87, 3) := by decide +kernel
theorem dd_Mo_init_204 : decode bb_Mo_init 204 = .ok (.aload_n 0, 1) := by decide +kernel
theorem dd_Mo_init_205 : decode bb_Mo_init 205 = .ok (.iload_n 1, 1) := by decide +kernel
theorem dd_Mo_init_206 : decode bb_Mo_init 206 = .ok (.iconst 1, 1) := by decide +kernel
theorem dd_Mo_init_207 : decode bb_Mo_init 207 = .ok (.if_icmp .ge 7, 3) := by decide +kernel
theorem dd_Mo_init_210 : decode bb_Mo_init 210 = .ok (.iconst 1, 1) := by decide +kernel
theorem dd_Mo_init_211 : decode bb_Mo_init 211 = .ok (.goto 15, 3) := by decide +kernel
theorem dd_Mo_init_214 : decode bb_Mo_init 214 = .ok (.iload_n 1, 1) := by decide +kernel
theorem dd_Mo_init_215 : decode bb_Mo_init 215 = .ok (.bipush 20, 2) := by decide +kernel
theorem dd_Mo_init_217 : decode bb_Mo_init 217 = .ok (.if_icmp .le 8, 3) := by decide +kernel
theorem dd_Mo_init_220 : decode bb_Mo_init 220 = .ok (.bipush 20, 2) := by decide +kernel
theorem dd_Mo_init_222 : decode bb_Mo_init 222 = .ok (.goto 4, 3) := by decide +kernel
theorem dd_Mo_init_225 : decode bb_Mo_init 225 = .ok (.iload_n 1, 1) := by decide +kernel
theorem dd_Mo_init_226 : decode bb_Mo_init 226 = .ok (.putfield 90, 3) := by decide +kernel
theorem dd_Mo_init_229 : decode bb_Mo_init 229 = .ok (.return_, 1) := by decide +kernel
theorem dd_Mo_step_0 : decode bb_Mo_step 0 = .ok (.aload_n 0, 1) := by decide +kernel
theorem dd_Mo_step_1 : decode bb_Mo_step 1 = .ok (.iconst 0, 1) := by decide +kernel
theorem dd_Mo_step_2 : decode bb_Mo_step 2 = .ok (.putfield 93, 3) := by decide +kernel
theorem dd_Mo_step_5 : decode bb_Mo_step 5 = .ok (.aload_n 0, 1) := by decide +kernel
theorem dd_Mo_step_6 : decode bb_Mo_step 6 = .ok (.iload_n 1, 1) := by decide +kernel
theorem dd_Mo_step_7 : decode bb_Mo_step 7 = .ok (.invokevirtual 131, 3) := by decide +kernel
theorem dd_Mo_step_10 : decode bb_Mo_step 10 = .ok (.ifCond .ne 9, 3) := by decide +kernel
theorem dd_Mo_step_13 : decode bb_Mo_step 13 = .ok (.aload_n 0, 1) := by decide +kernel
theorem dd_Mo_step_14 : decode bb_Mo_step 14 = .ok (.iconst 1, 1) := by decide +kernel
theorem dd_Mo_step_15 : decode bb_Mo_step 15 = .ok (.invokevirtual 134, 3) := by decide +kernel
theorem dd_Mo_step_18 : decode bb_Mo_step 18 = .ok (.ireturn, 1) := by decide +kernel
theorem dd_Mo_step_19 : decode bb_Mo_step 19 = .ok (.aload_n 0, 1) := by decide +kernel
theorem dd_Mo_step_20 : decode bb_Mo_step 20 = .ok (.getfield 66, 3) := by decide +kernel
theorem dd_Mo_step_23 : decode bb_Mo_step 23 = .ok (.iload_n 1, 1) := by decide +kernel
theorem dd_Mo_step_24 : decode bb_Mo_step 24 = .ok (.iaload, 1) := by decide +kernel
theorem dd_Mo_step_25 : decode bb_Mo_step 25 = .ok (.ifCond .ne 9, 3) := by decide +kernel
theorem dd_Mo_step_28 : decode bb_Mo_step 28 = .ok (.aload_n 0, 1) := by decide +kernel
theorem dd_Mo_step_29 : decode bb_Mo_step 29 = .ok (.iconst 2, 1) := by decide +kernel
theorem dd_Mo_step_30 : decode bb_Mo_step 30 = .ok (.invokevirtual 134, 3) := by decide +kernel
theorem dd_Mo_step_33 : decode bb_Mo_step 33 = .ok (.ireturn, 1) := by decide +kernel
theorem dd_Mo_step_34 : decode bb_Mo_step 34 = .ok (.aload_n 0, 1) := by decide +kernel
theorem dd_Mo_step_35 : decode bb_Mo_step 35 = .ok (.getfield 66, 3) := by decide +kernel
theorem dd_Mo_step_38 : decode bb_Mo_step 38 = .ok (.iload_n 1, 1) := by decide +kernel
theorem dd_Mo_step_39 : decode bb_Mo_step 39 = .ok (.iconst 2, 1) := by decide +kernel
theorem dd_Mo_step_40 : decode bb_Mo_step 40 = .ok (.iastore, 1) := by decide +kernel
theorem dd_Mo_step_41 : decode bb_Mo_step 41 = .ok (.aload_n 0, 1) := by decide +kernel
theorem dd_Mo_step_42 : decode bb_Mo_step 42 = .ok (.getfield 78, 3) := by decide +kernel
theorem dd_Mo_step_45 : decode bb_Mo_step 45 = .ok (.bipush 12, 2) := by decide +kernel
theorem dd_Mo_step_47 : decode bb_Mo_step 47 = .ok (.iload_n 1, 1) := by decide +kernel
theorem dd_Mo_step_48 : decode bb_Mo_step 48 = .ok (.imul, 1) := by decide +kernel
theorem dd_Mo_step_49 : decode bb_Mo_step 49 = .ok (.aload_n 0, 1) := by decide +kernel
theorem dd_Mo_step_50 : decode bb_Mo_step 50 = .ok (.iload_n 1, 1) := by decide +kernel
theorem dd_Mo_step_51 : decode bb_Mo_step 51 = .ok (.invokevirtual 155, 3) := by decide +kernel
theorem dd_Mo_step_54 : decode bb_Mo_step 54 = .ok (.iadd, 1) := by decide +kernel
theorem dd_Mo_step_55 : decode bb_Mo_step 55 = .ok (.iaload, 1) := by decide +kernel
theorem dd_Mo_step_56 : decode bb_Mo_step 56 = .ok (.ifCond .ne 11, 3) := by decide +kernel
theorem dd_Mo_step_59 : decode bb_Mo_step 59 = .ok (.aload_n 0, 1) := by decide +kernel
theorem dd_Mo_step_60 : decode bb_Mo_step 60 = .ok (.iload_n 1, 1) := by decide +kernel
theorem dd_Mo_step_61 : decode bb_Mo_step 61 = .ok (.bipush 7, 2) := by decide +kernel
theorem dd_Mo_step_63 : decode bb_Mo_step 63 = .ok (.invokevirtual 158, 3) := by decide +kernel
theorem dd_Mo_step_66 : decode bb_Mo_step 66 = .ok (.ireturn, 1) := by decide +kernel
theorem dd_Mo_step_67 : decode bb_Mo_step 67 = .ok (.aload_n 0, 1) := by decide +kernel
theorem dd_Mo_step_68 : decode bb_Mo_step 68 = .ok (.iload_n 1, 1) := by decide +kernel
theorem dd_Mo_step_69 : decode bb_Mo_step 69 = .ok (.iconst 0, 1) := by decide +kernel
theorem dd_Mo_step_70 : decode bb_Mo_step 70 = .ok (.invokevirtual 161, 3) := by decide +kernel
theorem dd_Mo_step_73 : decode bb_Mo_step 73 = .ok (.istore_n 2, 1) := by decide +kernel
theorem dd_Mo_step_74 : decode bb_Mo_step 74 = .ok (.iload_n 2, 1) := by decide +kernel
theorem dd_Mo_step_75 : decode bb_Mo_step 75 = .ok (.bipush 12, 2) := by decide +kernel
theorem dd_Mo_step_77 : decode bb_Mo_step 77 = .ok (.if_icmp .ge 10, 3) := by decide +kernel
theorem dd_Mo_step_80 : decode bb_Mo_step 80 = .ok (.aload_n 0, 1) := by decide +kernel
theorem dd_Mo_step_81 : decode bb_Mo_step 81 = .ok (.iload_n 1, 1) := by decide +kernel
theorem dd_Mo_step_82 : decode bb_Mo_step 82 = .ok (.iload_n 2, 1) := by decide +kernel
theorem dd_Mo_step_83 : decode bb_Mo_step 83 = .ok (.invokevirtual 165, 3) := by decide +kernel
theorem dd_Mo_step_86 : decode bb_Mo_step 86 = .ok (.ireturn, 1) := by decide +kernel
theorem dd_Mo_step_87 : decode bb_Mo_step 87 = .ok (.aload_n 0, 1) := by decide +kernel
theorem dd_Mo_step_88 : decode bb_Mo_step 88 = .ok (.getfield 72, 3) := by decide +kernel
theorem dd_Mo_step_91 : decode bb_Mo_step 91 = .ok (.iload_n 1, 1) := by decide +kernel
theorem dd_Mo_step_92 : decode bb_Mo_step 92 = .ok (.iaload, 1) := by decide +kernel
theorem dd_Mo_step_93 : decode bb_Mo_step 93 = .ok (.ifCond .ne 15, 3) := by decide +kernel
theorem dd_Mo_step_96 : decode bb_Mo_step 96 = .ok (.aload_n 0, 1) := by decide +kernel
theorem dd_Mo_step_97 : decode bb_Mo_step 97 = .ok (.getfield 72, 3) := by decide +kernel
theorem dd_Mo_step_100 : decode bb_Mo_step 100 = .ok (.iload_n 1, 1) := by decide +kernel
theorem dd_Mo_step_101 : decode bb_Mo_step 101 = .ok (.aload_n 0, 1) := by decide +kernel
theorem dd_Mo_step_102 : decode bb_Mo_step 102 = .ok (.invokevirtual 138, 3) := by decide +kernel
theorem dd_Mo_step_105 : decode bb_Mo_step 105 = .ok (.iastore, 1) := by decide +kernel
theorem dd_Mo_step_106 : decode bb_Mo_step 106 = .ok (.iconst 2, 1) := by decide +kernel
theorem dd_Mo_step_107 : decode bb_Mo_step 107 = .ok (.ireturn, 1) := by decide +kernel
theorem dd_Mo_step_108 : decode bb_Mo_step 108 = .ok (.aload_n 0, 1) := by decide +kernel
theorem dd_Mo_step_109 : decode bb_Mo_step 109 = .ok (.getfield 75, 3) := by decide +kernel
theorem dd_Mo_step_112 : decode bb_Mo_step 112 = .ok (.iload_n 1, 1) := by decide +kernel
theorem dd_Mo_step_113 : decode bb_Mo_step 113 = .ok (.baload, 1) := by decide +kernel
theorem dd_Mo_step_114 : decode bb_Mo_step 114 = .ok (.ifCond .eq 11, 3) := by decide +kernel
theorem dd_Mo_step_117 : decode bb_Mo_step 117 = .ok (.aload_n 0, 1) := by decide +kernel
theorem dd_Mo_step_118 : decode bb_Mo_step 118 = .ok (.iload_n 1, 1) := by decide +kernel
theorem dd_Mo_step_119 : decode bb_Mo_step 119 = .ok (.invokevirtual 168, 3) := by decide +kernel
theorem dd_Mo_step_122 : decode bb_Mo_step 122 = .ok (.goto 8, 3) := by decide +kernel
theorem dd_Mo_step_125 : decode bb_Mo_step 125 = .ok (.aload_n 0, 1) := by decide +kernel
theorem dd_Mo_step_126 : decode bb_Mo_step 126 = .ok (.iload_n 1, 1) := by decide +kernel
theorem dd_Mo_step_127 : decode bb_Mo_step 127 = .ok (.invokevirtual 171, 3) := by decide +kernel
theorem dd_Mo_step_130 : decode bb_Mo_step 130 = .ok (.ireturn, 1) := by decide +kernel
theorem dd_Mo_prewrite_0 : decode bb_Mo_prewrite 0 = .ok (.aload_n 0, 1) := by decide +kernel
theorem dd_Mo_prewrite_1 : decode bb_Mo_prewrite 1 = .ok (.getfield 69, 3) := by decide +kernel
theorem dd_Mo_prewrite_4 : decode bb_Mo_prewrite 4 = .ok (.iload_n 1, 1) := by decide +kernel
theorem dd_Mo_prewrite_5 : decode bb_Mo_prewrite 5 = .ok (.iaload, 1) := by decide +kernel
theorem dd_Mo_prewrite_6 : decode bb_Mo_prewrite 6 = .ok (.istore_n 3, 1) := by decide +kernel
theorem dd_Mo_prewrite_7 : decode bb_Mo_prewrite 7 = .ok (.aload_n 0, 1) := by decide +kernel
theorem dd_Mo_prewrite_8 : decode bb_Mo_prewrite 8 = .ok (.getfield 47, 3) := by decide +kernel
theorem dd_Mo_prewrite_11 : decode bb_Mo_prewrite 11 = .ok (.iload_n 2, 1) := by decide +kernel
theorem dd_Mo_prewrite_12 : decode bb_Mo_prewrite 12 = .ok (.iconst 4, 1) := by decide +kernel
theorem dd_Mo_prewrite_13 : decode bb_Mo_prewrite 13 = .ok (.idiv, 1) := by decide +kernel
theorem dd_Mo_prewrite_14 : decode bb_Mo_prewrite 14 = .ok (.baload, 1) := by decide +kernel
theorem dd_Mo_prewrite_15 : decode bb_Mo_prewrite 15 = .ok (.ifCond .eq 9, 3) := by decide +kernel
theorem dd_Mo_prewrite_18 : decode bb_Mo_prewrite 18 = .ok (.aload_n 0, 1) := by decide +kernel
theorem dd_Mo_prewrite_19 : decode bb_Mo_prewrite 19 = .ok (.iconst 3, 1) := by decide +kernel
theorem dd_Mo_prewrite_20 : decode bb_Mo_prewrite 20 = .ok (.invokevirtual 134, 3) := by decide +kernel
theorem dd_Mo_prewrite_23 : decode bb_Mo_prewrite 23 = .ok (.ireturn, 1) := by decide +kernel
theorem dd_Mo_prewrite_24 : decode bb_Mo_prewrite 24 = .ok (.aload_n 0, 1) := by decide +kernel
theorem dd_Mo_prewrite_25 : decode bb_Mo_prewrite 25 = .ok (.getfield 13, 3) := by decide +kernel
theorem dd_Mo_prewrite_28 : decode bb_Mo_prewrite 28 = .ok (.iload_n 2, 1) := by decide +kernel
theorem dd_Mo_prewrite_29 : decode bb_Mo_prewrite 29 = .ok (.iaload, 1) := by decide +kernel
theorem dd_Mo_prewrite_30 : decode bb_Mo_prewrite 30 = .ok (.iload_n 3, 1) := by decide +kernel
theorem dd_Mo_prewrite_31 : decode bb_Mo_prewrite 31 = .ok (.if_icmp .eq 104, 3) := by decide +kernel
theorem dd_Mo_prewrite_34 : decode bb_Mo_prewrite 34 = .ok (.aload_n 0, 1) := by decide +kernel
theorem dd_Mo_prewrite_35 : decode bb_Mo_prewrite 35 = .ok (.getfield 51, 3) := by decide +kernel
theorem dd_Mo_prewrite_38 : decode bb_Mo_prewrite 38 = .ok (.iload_n 2, 1) := by decide +kernel
theorem dd_Mo_prewrite_39 : decode bb_Mo_prewrite 39 = .ok (.iconst 4, 1) := by decide +kernel
theorem dd_Mo_prewrite_40 : decode bb_Mo_prewrite 40 = .ok (.idiv, 1) := by decide +kernel
theorem dd_Mo_prewrite_41 : decode bb_Mo_prewrite 41 = .ok (.iaload, 1) := by decide +kernel
theorem dd_Mo_prewrite_42 : decode bb_Mo_prewrite 42 = .ok (.iload_n 3, 1) := by decide +kernel
theorem dd_Mo_prewrite_43 : decode bb_Mo_prewrite 43 = .ok (.if_icmp .gt 12, 3) := by decide +kernel
theorem dd_Mo_prewrite_46 : decode bb_Mo_prewrite 46 = .ok (.aload_n 0, 1) := by decide +kernel
theorem dd_Mo_prewrite_47 : decode bb_Mo_prewrite 47 = .ok (.iload_n 2, 1) := by decide +kernel
theorem dd_Mo_prewrite_48 : decode bb_Mo_prewrite 48 = .ok (.iload_n 3, 1) := by decide +kernel
theorem dd_Mo_prewrite_49 : decode bb_Mo_prewrite 49 = .ok (.invokevirtual 174, 3) := by decide +kernel
theorem dd_Mo_prewrite_52 : decode bb_Mo_prewrite 52 = .ok (.ifCond .eq 10, 3) := by decide +kernel
theorem dd_Mo_prewrite_55 : decode bb_Mo_prewrite 55 = .ok (.aload_n 0, 1) := by decide +kernel
theorem dd_Mo_prewrite_56 : decode bb_Mo_prewrite 56 = .ok (.iload_n 1, 1) := by decide +kernel
theorem dd_Mo_prewrite_57 : decode bb_Mo_prewrite 57 = .ok (.iconst 0, 1) := by decide +kernel
theorem dd_Mo_prewrite_58 : decode bb_Mo_prewrite 58 = .ok (.invokevirtual 158, 3) := by decide +kernel
theorem dd_Mo_prewrite_61 : decode bb_Mo_prewrite 61 = .ok (.ireturn, 1) := by decide +kernel
theorem dd_Mo_prewrite_62 : decode bb_Mo_prewrite 62 = .ok (.aload_n 0, 1) := by decide +kernel
theorem dd_Mo_prewrite_63 : decode bb_Mo_prewrite 63 = .ok (.getfield 13, 3) := by decide +kernel
theorem dd_Mo_prewrite_66 : decode bb_Mo_prewrite 66 = .ok (.iload_n 2, 1) := by decide +kernel
theorem dd_Mo_prewrite_67 : decode bb_Mo_prewrite 67 = .ok (.iaload, 1) := by decide +kernel
theorem dd_Mo_prewrite_68 : decode bb_Mo_prewrite 68 = .ok (.ifCond .le 43, 3) := by decide +kernel
theorem dd_Mo_prewrite_71 : decode bb_Mo_prewrite 71 = .ok (.aload_n 0, 1) := by decide +kernel
theorem dd_Mo_prewrite_72 : decode bb_Mo_prewrite 72 = .ok (.iload_n 2, 1) := by decide +kernel
theorem dd_Mo_prewrite_73 : decode bb_Mo_prewrite 73 = .ok (.invokevirtual 145, 3) := by decide +kernel
theorem dd_Mo_prewrite_76 : decode bb_Mo_prewrite 76 = .ok (.istore 4, 2) := by decide +kernel
theorem dd_Mo_prewrite_78 : decode bb_Mo_prewrite 78 = .ok (.iload 4, 2) := by decide +kernel
theorem dd_Mo_prewrite_80 : decode bb_Mo_prewrite 80 = .ok (.iconst 1, 1) := by decide +kernel
theorem dd_Mo_prewrite_81 : decode bb_Mo_prewrite 81 = .ok (.if_icmp .eq 8, 3) := by decide +kernel
theorem dd_Mo_prewrite_84 : decode bb_Mo_prewrite 84 = .ok (.iload 4, 2) := by decide +kernel
theorem dd_Mo_prewrite_86 : decode bb_Mo_prewrite 86 = .ok (.ifCond .ne 9, 3) := by decide +kernel
theorem dd_Mo_prewrite_89 : decode bb_Mo_prewrite 89 = .ok (.aload_n 0, 1) := by decide +kernel
theorem dd_Mo_prewrite_90 : decode bb_Mo_prewrite 90 = .ok (.iconst 3, 1) := by decide +kernel
theorem dd_Mo_prewrite_91 : decode bb_Mo_prewrite 91 = .ok (.invokevirtual 134, 3) := by decide +kernel
theorem dd_Mo_prewrite_94 : decode bb_Mo_prewrite 94 = .ok (.ireturn, 1) := by decide +kernel
theorem dd_Mo_prewrite_95 : decode bb_Mo_prewrite 95 = .ok (.aload_n 0, 1) := by decide +kernel
theorem dd_Mo_prewrite_96 : decode bb_Mo_prewrite 96 = .ok (.iload_n 2, 1) := by decide +kernel
theorem dd_Mo_prewrite_97 : decode bb_Mo_prewrite 97 = .ok (.iload_n 3, 1) := by decide +kernel
theorem dd_Mo_prewrite_98 : decode bb_Mo_prewrite 98 = .ok (.invokevirtual 174, 3) := by decide +kernel
theorem dd_Mo_prewrite_101 : decode bb_Mo_prewrite 101 = .ok (.ifCond .eq 10, 3) := by decide +kernel
theorem dd_Mo_prewrite_104 : decode bb_Mo_prewrite 104 = .ok (.aload_n 0, 1) := by decide +kernel
theorem dd_Mo_prewrite_105 : decode bb_Mo_prewrite 105 = .ok (.iload_n 1, 1) := by decide +kernel
theorem dd_Mo_prewrite_106 : decode bb_Mo_prewrite 106 = .ok (.iconst 0, 1) := by decide +kernel
theorem dd_Mo_prewrite_107 : decode bb_Mo_prewrite 107 = .ok (.invokevirtual 158, 3) := by decide +kernel
theorem dd_Mo_prewrite_110 : decode bb_Mo_prewrite 110 = .ok (.ireturn, 1) := by decide +kernel
theorem dd_Mo_prewrite_111 : decode bb_Mo_prewrite 111 = .ok (.aload_n 0, 1) := by decide +kernel
theorem dd_Mo_prewrite_112 : decode bb_Mo_prewrite 112 = .ok (.iload_n 1, 1) := by decide +kernel
theorem dd_Mo_prewrite_113 : decode bb_Mo_prewrite 113 = .ok (.invokevirtual 155, 3) := by decide +kernel
theorem dd_Mo_prewrite_116 : decode bb_Mo_prewrite 116 = .ok (.istore 4, 2) := by decide +kernel
theorem dd_Mo_prewrite_118 : decode bb_Mo_prewrite 118 = .ok (.aload_n 0, 1) := by decide +kernel
theorem dd_Mo_prewrite_119 : decode bb_Mo_prewrite 119 = .ok (.iload_n 1, 1) := by decide +kernel
theorem dd_Mo_prewrite_120 : decode bb_Mo_prewrite 120 = .ok (.iload_n 2, 1) := by decide +kernel
theorem dd_Mo_prewrite_121 : decode bb_Mo_prewrite 121 = .ok (.iload 4, 2) := by decide +kernel
theorem dd_Mo_prewrite_123 : decode bb_Mo_prewrite 123 = .ok (.invokevirtual 177, 3) := by decide +kernel
theorem dd_Mo_prewrite_126 : decode bb_Mo_prewrite 126 = .ok (.ifCond .ne 9, 3) := by decide +kernel
theorem dd_Mo_prewrite_129 : decode bb_Mo_prewrite 129 = .ok (.aload_n 0, 1) := by decide +kernel
theorem dd_Mo_prewrite_130 : decode bb_Mo_prewrite 130 = .ok (.iconst 3, 1) := by decide +kernel
theorem dd_Mo_prewrite_131 : decode bb_Mo_prewrite 131 = .ok (.invokevirtual 134, 3) := by decide +kernel
theorem dd_Mo_prewrite_134 : decode bb_Mo_prewrite 134 = .ok (.ireturn, 1) := by decide +kernel
theorem dd_Mo_prewrite_135 : decode bb_Mo_prewrite 135 = .ok (.aload_n 0, 1) := by decide +kernel
theorem dd_Mo_prewrite_136 : decode bb_Mo_prewrite 136 = .ok (.getfield 84, 3) := by decide +kernel
theorem dd_Mo_prewrite_139 : decode bb_Mo_prewrite 139 = .ok (.bipush 12, 2) := by decide +kernel
theorem dd_Mo_prewrite_141 : decode bb_Mo_prewrite 141 = .ok (.iload_n 1, 1) := by decide +kernel
theorem dd_Mo_prewrite_142 : decode bb_Mo_prewrite 142 = .ok (.imul, 1) := by decide +kernel
theorem dd_Mo_prewrite_143 : decode bb_Mo_prewrite 143 = .ok (.iload_n 2, 1) := by decide +kernel
theorem dd_Mo_prewrite_144 : decode bb_Mo_prewrite 144 = .ok (.iadd, 1) := by decide +kernel
theorem dd_Mo_prewrite_145 : decode bb_Mo_prewrite 145 = .ok (.iconst 1, 1) := by decide +kernel
theorem dd_Mo_prewrite_146 : decode bb_Mo_prewrite 146 = .ok (.bastore, 1) := by decide +kernel
theorem dd_Mo_prewrite_147 : decode bb_Mo_prewrite 147 = .ok (.iconst 1, 1) := by decide +kernel
theorem dd_Mo_prewrite_148 : decode bb_Mo_prewrite 148 = .ok (.ireturn, 1) := by decide +kernel
theorem dd_Mo_decide_0 : decode bb_Mo_decide 0 = .ok (.aload_n 0, 1) := by decide +kernel
theorem dd_Mo_decide_1 : decode bb_Mo_decide 1 = .ok (.iload_n 1, 1) := by decide +kernel
theorem dd_Mo_decide_2 : decode bb_Mo_decide 2 = .ok (.invokevirtual 155, 3) := by decide +kernel
theorem dd_Mo_decide_5 : decode bb_Mo_decide 5 = .ok (.istore_n 2, 1) := by decide +kernel
theorem dd_Mo_decide_6 : decode bb_Mo_decide 6 = .ok (.aload_n 0, 1) := by decide +kernel
theorem dd_Mo_decide_7 : decode bb_Mo_decide 7 = .ok (.getfield 47, 3) := by decide +kernel
theorem dd_Mo_decide_10 : decode bb_Mo_decide 10 = .ok (.iload_n 2, 1) := by decide +kernel
theorem dd_Mo_decide_11 : decode bb_Mo_decide 11 = .ok (.iconst 4, 1) := by decide +kernel
theorem dd_Mo_decide_12 : decode bb_Mo_decide 12 = .ok (.idiv, 1) := by decide +kernel
theorem dd_Mo_decide_13 : decode bb_Mo_decide 13 = .ok (.baload, 1) := by decide +kernel
theorem dd_Mo_decide_14 : decode bb_Mo_decide 14 = .ok (.ifCond .eq 9, 3) := by decide +kernel
theorem dd_Mo_decide_17 : decode bb_Mo_decide 17 = .ok (.aload_n 0, 1) := by decide +kernel
theorem dd_Mo_decide_18 : decode bb_Mo_decide 18 = .ok (.iconst 3, 1) := by decide +kernel
theorem dd_Mo_decide_19 : decode bb_Mo_decide 19 = .ok (.invokevirtual 134, 3) := by decide +kernel
theorem dd_Mo_decide_22 : decode bb_Mo_decide 22 = .ok (.ireturn, 1) := by decide +kernel
theorem dd_Mo_decide_23 : decode bb_Mo_decide 23 = .ok (.aload_n 0, 1) := by decide +kernel
theorem dd_Mo_decide_24 : decode bb_Mo_decide 24 = .ok (.iload_n 2, 1) := by decide +kernel
theorem dd_Mo_decide_25 : decode bb_Mo_decide 25 = .ok (.aload_n 0, 1) := by decide +kernel
theorem dd_Mo_decide_26 : decode bb_Mo_decide 26 = .ok (.getfield 69, 3) := by decide +kernel
theorem dd_Mo_decide_29 : decode bb_Mo_decide 29 = .ok (.iload_n 1, 1) := by decide +kernel
theorem dd_Mo_decide_30 : decode bb_Mo_decide 30 = .ok (.iaload, 1) := by decide +kernel
theorem dd_Mo_decide_31 : decode bb_Mo_decide 31 = .ok (.invokevirtual 113, 3) := by decide +kernel
theorem dd_Mo_decide_34 : decode bb_Mo_decide 34 = .ok (.ifCond .ne 45, 3) := by decide +kernel
theorem dd_Mo_decide_37 : decode bb_Mo_decide 37 = .ok (.aload_n 0, 1) := by decide +kernel
theorem dd_Mo_decide_38 : decode bb_Mo_decide 38 = .ok (.getfield 13, 3) := by decide +kernel
theorem dd_Mo_decide_41 : decode bb_Mo_decide 41 = .ok (.iload_n 2, 1) := by decide +kernel
theorem dd_Mo_decide_42 : decode bb_Mo_decide 42 = .ok (.iaload, 1) := by decide +kernel
theorem dd_Mo_decide_43 : decode bb_Mo_decide 43 = .ok (.aload_n 0, 1) := by decide +kernel
theorem dd_Mo_decide_44 : decode bb_Mo_decide 44 = .ok (.getfield 69, 3) := by decide +kernel
theorem dd_Mo_decide_47 : decode bb_Mo_decide 47 = .ok (.iload_n 1, 1) := by decide +kernel
theorem dd_Mo_decide_48 : decode bb_Mo_decide 48 = .ok (.iaload, 1) := by decide +kernel
theorem dd_Mo_decide_49 : decode bb_Mo_decide 49 = .ok (.if_icmp .eq 10, 3) := by decide +kernel
theorem dd_Mo_decide_52 : decode bb_Mo_decide 52 = .ok (.aload_n 0, 1) := by decide +kernel
theorem dd_Mo_decide_53 : decode bb_Mo_decide 53 = .ok (.iload_n 1, 1) := by decide +kernel
theorem dd_Mo_decide_54 : decode bb_Mo_decide 54 = .ok (.iconst 0, 1) := by decide +kernel
theorem dd_Mo_decide_55 : decode bb_Mo_decide 55 = .ok (.invokevirtual 158, 3) := by decide +kernel
theorem dd_Mo_decide_58 : decode bb_Mo_decide 58 = .ok (.ireturn, 1) := by decide +kernel
theorem dd_Mo_decide_59 : decode bb_Mo_decide 59 = .ok (.aload_n 0, 1) := by decide +kernel
theorem dd_Mo_decide_60 : decode bb_Mo_decide 60 = .ok (.iload_n 2, 1) := by decide +kernel
theorem dd_Mo_decide_61 : decode bb_Mo_decide 61 = .ok (.aload_n 0, 1) := by decide +kernel
theorem dd_Mo_decide_62 : decode bb_Mo_decide 62 = .ok (.getfield 72, 3) := by decide +kernel
theorem dd_Mo_decide_65 : decode bb_Mo_decide 65 = .ok (.iload_n 1, 1) := by decide +kernel
theorem dd_Mo_decide_66 : decode bb_Mo_decide 66 = .ok (.iaload, 1) := by decide +kernel
theorem dd_Mo_decide_67 : decode bb_Mo_decide 67 = .ok (.invokevirtual 117, 3) := by decide +kernel
theorem dd_Mo_decide_70 : decode bb_Mo_decide 70 = .ok (.ifCond .ne 9, 3) := by decide +kernel
theorem dd_Mo_decide_73 : decode bb_Mo_decide 73 = .ok (.aload_n 0, 1) := by decide +kernel
theorem dd_Mo_decide_74 : decode bb_Mo_decide 74 = .ok (.iconst 3, 1) := by decide +kernel
theorem dd_Mo_decide_75 : decode bb_Mo_decide 75 = .ok (.invokevirtual 134, 3) := by decide +kernel
theorem dd_Mo_decide_78 : decode bb_Mo_decide 78 = .ok (.ireturn, 1) := by decide +kernel
theorem dd_Mo_decide_79 : decode bb_Mo_decide 79 = .ok (.aload_n 0, 1) := by decide +kernel
theorem dd_Mo_decide_80 : decode bb_Mo_decide 80 = .ok (.getfield 75, 3) := by decide +kernel
theorem dd_Mo_decide_83 : decode bb_Mo_decide 83 = .ok (.iload_n 1, 1) := by decide +kernel
theorem dd_Mo_decide_84 : decode bb_Mo_decide 84 = .ok (.iconst 1, 1) := by decide +kernel
theorem dd_Mo_decide_85 : decode bb_Mo_decide 85 = .ok (.bastore, 1) := by decide +kernel
theorem dd_Mo_decide_86 : decode bb_Mo_decide 86 = .ok (.aload_n 0, 1) := by decide +kernel
theorem dd_Mo_decide_87 : decode bb_Mo_decide 87 = .ok (.iload_n 1, 1) := by decide +kernel
theorem dd_Mo_decide_88 : decode bb_Mo_decide 88 = .ok (.iconst 1, 1) := by decide +kernel
theorem dd_Mo_decide_89 : decode bb_Mo_decide 89 = .ok (.invokevirtual 161, 3) := by decide +kernel
theorem dd_Mo_decide_92 : decode bb_Mo_decide 92 = .ok (.bipush 12, 2) := by decide +kernel
theorem dd_Mo_decide_94 : decode bb_Mo_decide 94 = .ok (.if_icmp .ne 12, 3) := by decide +kernel
theorem dd_Mo_decide_97 : decode bb_Mo_decide 97 = .ok (.aload_n 0, 1) := by decide +kernel
theorem dd_Mo_decide_98 : decode bb_Mo_decide 98 = .ok (.iload_n 1, 1) := by decide +kernel
theorem dd_Mo_decide_99 : decode bb_Mo_decide 99 = .ok (.iconst 4, 1) := by decide +kernel
theorem dd_Mo_decide_100 : decode bb_Mo_decide 100 = .ok (.invokevirtual 158, 3) := by decide +kernel
theorem dd_Mo_decide_103 : decode bb_Mo_decide 103 = .ok (.goto 4, 3) := by decide +kernel
theorem dd_Mo_decide_106 : decode bb_Mo_decide 106 = .ok (.iconst 3, 1) := by decide +kernel
theorem dd_Mo_decide_107 : decode bb_Mo_decide 107 = .ok (.ireturn, 1) := by decide +kernel
theorem dd_Mo_follow_0 : decode bb_Mo_follow 0 = .ok (.aload_n 0, 1) := by decide +kernel
theorem dd_Mo_follow_1 : decode bb_Mo_follow 1 = .ok (.iload_n 1, 1) := by decide +kernel
theorem dd_Mo_follow_2 : decode bb_Mo_follow 2 = .ok (.iconst 1, 1) := by decide +kernel
theorem dd_Mo_follow_3 : decode bb_Mo_follow 3 = .ok (.invokevirtual 161, 3) := by decide +kernel
theorem dd_Mo_follow_6 : decode bb_Mo_follow 6 = .ok (.istore_n 2, 1) := by decide +kernel
theorem dd_Mo_follow_7 : decode bb_Mo_follow 7 = .ok (.aload_n 0, 1) := by decide +kernel
theorem dd_Mo_follow_8 : decode bb_Mo_follow 8 = .ok (.getfield 47, 3) := by decide +kernel
theorem dd_Mo_follow_11 : decode bb_Mo_follow 11 = .ok (.iload_n 2, 1) := by decide +kernel
theorem dd_Mo_follow_12 : decode bb_Mo_follow 12 = .ok (.iconst 4, 1) := by decide +kernel
theorem dd_Mo_follow_13 : decode bb_Mo_follow 13 = .ok (.idiv, 1) := by decide +kernel
theorem dd_Mo_follow_14 : decode bb_Mo_follow 14 = .ok (.baload, 1) := by decide +kernel
theorem dd_Mo_follow_15 : decode bb_Mo_follow 15 = .ok (.ifCond .eq 9, 3) := by decide +kernel
theorem dd_Mo_follow_18 : decode bb_Mo_follow 18 = .ok (.aload_n 0, 1) := by decide +kernel
theorem dd_Mo_follow_19 : decode bb_Mo_follow 19 = .ok (.iconst 3, 1) := by decide +kernel
theorem dd_Mo_follow_20 : decode bb_Mo_follow 20 = .ok (.invokevirtual 134, 3) := by decide +kernel
theorem dd_Mo_follow_23 : decode bb_Mo_follow 23 = .ok (.ireturn, 1) := by decide +kernel
theorem dd_Mo_follow_24 : decode bb_Mo_follow 24 = .ok (.aload_n 0, 1) := by decide +kernel
theorem dd_Mo_follow_25 : decode bb_Mo_follow 25 = .ok (.getfield 13, 3) := by decide +kernel
theorem dd_Mo_follow_28 : decode bb_Mo_follow 28 = .ok (.iload_n 2, 1) := by decide +kernel
theorem dd_Mo_follow_29 : decode bb_Mo_follow 29 = .ok (.iaload, 1) := by decide +kernel
theorem dd_Mo_follow_30 : decode bb_Mo_follow 30 = .ok (.aload_n 0, 1) := by decide +kernel
theorem dd_Mo_follow_31 : decode bb_Mo_follow 31 = .ok (.getfield 69, 3) := by decide +kernel
theorem dd_Mo_follow_34 : decode bb_Mo_follow 34 = .ok (.iload_n 1, 1) := by decide +kernel
theorem dd_Mo_follow_35 : decode bb_Mo_follow 35 = .ok (.iaload, 1) := by decide +kernel
theorem dd_Mo_follow_36 : decode bb_Mo_follow 36 = .ok (.if_icmp .ne 23, 3) := by decide +kernel
theorem dd_Mo_follow_39 : decode bb_Mo_follow 39 = .ok (.aload_n 0, 1) := by decide +kernel
theorem dd_Mo_follow_40 : decode bb_Mo_follow 40 = .ok (.iload_n 2, 1) := by decide +kernel
theorem dd_Mo_follow_41 : decode bb_Mo_follow 41 = .ok (.aload_n 0, 1) := by decide +kernel
theorem dd_Mo_follow_42 : decode bb_Mo_follow 42 = .ok (.getfield 72, 3) := by decide +kernel
theorem dd_Mo_follow_45 : decode bb_Mo_follow 45 = .ok (.iload_n 1, 1) := by decide +kernel
theorem dd_Mo_follow_46 : decode bb_Mo_follow 46 = .ok (.iaload, 1) := by decide +kernel
theorem dd_Mo_follow_47 : decode bb_Mo_follow 47 = .ok (.invokevirtual 117, 3) := by decide +kernel
theorem dd_Mo_follow_50 : decode bb_Mo_follow 50 = .ok (.ifCond .ne 9, 3) := by decide +kernel
theorem dd_Mo_follow_53 : decode bb_Mo_follow 53 = .ok (.aload_n 0, 1) := by decide +kernel
theorem dd_Mo_follow_54 : decode bb_Mo_follow 54 = .ok (.iconst 3, 1) := by decide +kernel
theorem dd_Mo_follow_55 : decode bb_Mo_follow 55 = .ok (.invokevirtual 134, 3) := by decide +kernel
theorem dd_Mo_follow_58 : decode bb_Mo_follow 58 = .ok (.ireturn, 1) := by decide +kernel
theorem dd_Mo_follow_59 : decode bb_Mo_follow 59 = .ok (.aload_n 0, 1) := by decide +kernel
theorem dd_Mo_follow_60 : decode bb_Mo_follow 60 = .ok (.getfield 87, 3) := by decide +kernel
theorem dd_Mo_follow_63 : decode bb_Mo_follow 63 = .ok (.bipush 12, 2) := by decide +kernel
theorem dd_Mo_follow_65 : decode bb_Mo_follow 65 = .ok (.iload_n 1, 1) := by decide +kernel
theorem dd_Mo_follow_66 : decode bb_Mo_follow 66 = .ok (.imul, 1) := by decide +kernel
theorem dd_Mo_follow_67 : decode bb_Mo_follow 67 = .ok (.iload_n 2, 1) := by decide +kernel
theorem dd_Mo_follow_68 : decode bb_Mo_follow 68 = .ok (.iadd, 1) := by decide +kernel
theorem dd_Mo_follow_69 : decode bb_Mo_follow 69 = .ok (.iconst 1, 1) := by decide +kernel
theorem dd_Mo_follow_70 : decode bb_Mo_follow 70 = .ok (.bastore, 1) := by decide +kernel
theorem dd_Mo_follow_71 : decode bb_Mo_follow 71 = .ok (.aload_n 0, 1) := by decide +kernel
theorem dd_Mo_follow_72 : decode bb_Mo_follow 72 = .ok (.iload_n 1, 1) := by decide +kernel
theorem dd_Mo_follow_73 : decode bb_Mo_follow 73 = .ok (.iconst 1, 1) := by decide +kernel
theorem dd_Mo_follow_74 : decode bb_Mo_follow 74 = .ok (.invokevirtual 161, 3) := by decide +kernel
theorem dd_Mo_follow_77 : decode bb_Mo_follow 77 = .ok (.bipush 12, 2) := by decide +kernel
theorem dd_Mo_follow_79 : decode bb_Mo_follow 79 = .ok (.if_icmp .ne 13, 3) := by decide +kernel
theorem dd_Mo_follow_82 : decode bb_Mo_follow 82 = .ok (.aload_n 0, 1) := by decide +kernel
theorem dd_Mo_follow_83 : decode bb_Mo_follow 83 = .ok (.iload_n 1, 1) := by decide +kernel
theorem dd_Mo_follow_84 : decode bb_Mo_follow 84 = .ok (.bipush 6, 2) := by decide +kernel
theorem dd_Mo_follow_86 : decode bb_Mo_follow 86 = .ok (.invokevirtual 158, 3) := by decide +kernel
theorem dd_Mo_follow_89 : decode bb_Mo_follow 89 = .ok (.goto 4, 3) := by decide +kernel
theorem dd_Mo_follow_92 : decode bb_Mo_follow 92 = .ok (.iconst 5, 1) := by decide +kernel
theorem dd_Mo_follow_93 : decode bb_Mo_follow 93 = .ok (.ireturn, 1) := by decide +kernel
theorem dd_Mo_kill_0 : decode bb_Mo_kill 0 = .ok (.aload_n 0, 1) := by decide +kernel
theorem dd_Mo_kill_1 : decode bb_Mo_kill 1 = .ok (.iconst 0, 1) := by decide +kernel
theorem dd_Mo_kill_2 : decode bb_Mo_kill 2 = .ok (.putfield 93, 3) := by decide +kernel
theorem dd_Mo_kill_5 : decode bb_Mo_kill 5 = .ok (.aload_n 0, 1) := by decide +kernel
theorem dd_Mo_kill_6 : decode bb_Mo_kill 6 = .ok (.iload_n 1, 1) := by decide +kernel
theorem dd_Mo_kill_7 : decode bb_Mo_kill 7 = .ok (.invokevirtual 131, 3) := by decide +kernel
theorem dd_Mo_kill_10 : decode bb_Mo_kill 10 = .ok (.ifCond .eq 12, 3) := by decide +kernel
theorem dd_Mo_kill_13 : decode bb_Mo_kill 13 = .ok (.aload_n 0, 1) := by decide +kernel
theorem dd_Mo_kill_14 : decode bb_Mo_kill 14 = .ok (.getfield 66, 3) := by decide +kernel
theorem dd_Mo_kill_17 : decode bb_Mo_kill 17 = .ok (.iload_n 1, 1) := by decide +kernel
theorem dd_Mo_kill_18 : decode bb_Mo_kill 18 = .ok (.iaload, 1) := by decide +kernel
theorem dd_Mo_kill_19 : decode bb_Mo_kill 19 = .ok (.ifCond .ne 5, 3) := by decide +kernel
theorem dd_Mo_kill_22 : decode bb_Mo_kill 22 = .ok (.iconst 0, 1) := by decide +kernel
theorem dd_Mo_kill_23 : decode bb_Mo_kill 23 = .ok (.ireturn, 1) := by decide +kernel
theorem dd_Mo_kill_24 : decode bb_Mo_kill 24 = .ok (.aload_n 0, 1) := by decide +kernel
theorem dd_Mo_kill_25 : decode bb_Mo_kill 25 = .ok (.getfield 66, 3) := by decide +kernel
theorem dd_Mo_kill_28 : decode bb_Mo_kill 28 = .ok (.iload_n 1, 1) := by decide +kernel
theorem dd_Mo_kill_29 : decode bb_Mo_kill 29 = .ok (.iconst 0, 1) := by decide +kernel
theorem dd_Mo_kill_30 : decode bb_Mo_kill 30 = .ok (.iastore, 1) := by decide +kernel
theorem dd_Mo_kill_31 : decode bb_Mo_kill 31 = .ok (.iconst 1, 1) := by decide +kernel
theorem dd_Mo_kill_32 : decode bb_Mo_kill 32 = .ok (.ireturn, 1) := by decide +kernel
theorem dd_Mo_clear_0 : decode bb_Mo_clear 0 = .ok (.aload_n 0, 1) := by decide +kernel
theorem dd_Mo_clear_1 : decode bb_Mo_clear 1 = .ok (.iconst 0, 1) := by decide +kernel
theorem dd_Mo_clear_2 : decode bb_Mo_clear 2 = .ok (.putfield 93, 3) := by decide +kernel
theorem dd_Mo_clear_5 : decode bb_Mo_clear 5 = .ok (.iload_n 1, 1) := by decide +kernel
theorem dd_Mo_clear_6 : decode bb_Mo_clear 6 = .ok (.invokestatic 142, 3) := by decide +kernel
theorem dd_Mo_clear_9 : decode bb_Mo_clear 9 = .ok (.ifCond .ne 9, 3) := by decide +kernel
theorem dd_Mo_clear_12 : decode bb_Mo_clear 12 = .ok (.aload_n 0, 1) := by decide +kernel
theorem dd_Mo_clear_13 : decode bb_Mo_clear 13 = .ok (.iconst 1, 1) := by decide +kernel
theorem dd_Mo_clear_14 : decode bb_Mo_clear 14 = .ok (.invokevirtual 134, 3) := by decide +kernel
theorem dd_Mo_clear_17 : decode bb_Mo_clear 17 = .ok (.ireturn, 1) := by decide +kernel
theorem dd_Mo_clear_18 : decode bb_Mo_clear 18 = .ok (.aload_n 0, 1) := by decide +kernel
theorem dd_Mo_clear_19 : decode bb_Mo_clear 19 = .ok (.getfield 47, 3) := by decide +kernel
theorem dd_Mo_clear_22 : decode bb_Mo_clear 22 = .ok (.iload_n 1, 1) := by decide +kernel
theorem dd_Mo_clear_23 : decode bb_Mo_clear 23 = .ok (.iconst 4, 1) := by decide +kernel
theorem dd_Mo_clear_24 : decode bb_Mo_clear 24 = .ok (.idiv, 1) := by decide +kernel
theorem dd_Mo_clear_25 : decode bb_Mo_clear 25 = .ok (.baload, 1) := by decide +kernel
theorem dd_Mo_clear_26 : decode bb_Mo_clear 26 = .ok (.ifCond .eq 9, 3) := by decide +kernel
theorem dd_Mo_clear_29 : decode bb_Mo_clear 29 = .ok (.aload_n 0, 1) := by decide +kernel
theorem dd_Mo_clear_30 : decode bb_Mo_clear 30 = .ok (.iconst 2, 1) := by decide +kernel
theorem dd_Mo_clear_31 : decode bb_Mo_clear 31 = .ok (.invokevirtual 134, 3) := by decide +kernel
theorem dd_Mo_clear_34 : decode bb_Mo_clear 34 = .ok (.ireturn, 1) := by decide +kernel
theorem dd_Mo_clear_35 : decode bb_Mo_clear 35 = .ok (.aload_n 0, 1) := by decide +kernel
theorem dd_Mo_clear_36 : decode bb_Mo_clear 36 = .ok (.getfield 13, 3) := by decide +kernel
theorem dd_Mo_clear_39 : decode bb_Mo_clear 39 = .ok (.iload_n 1, 1) := by decide +kernel
theorem dd_Mo_clear_40 : decode bb_Mo_clear 40 = .ok (.iaload, 1) := by decide +kernel
theorem dd_Mo_clear_41 : decode bb_Mo_clear 41 = .ok (.ifCond .ne 5, 3) := by decide +kernel
theorem dd_Mo_clear_44 : decode bb_Mo_clear 44 = .ok (.iconst 0, 1) := by decide +kernel
theorem dd_Mo_clear_45 : decode bb_Mo_clear 45 = .ok (.ireturn, 1) := by decide +kernel
theorem dd_Mo_clear_46 : decode bb_Mo_clear 46 = .ok (.aload_n 0, 1) := by decide +kernel
theorem dd_Mo_clear_47 : decode bb_Mo_clear 47 = .ok (.iload_n 1, 1) := by decide +kernel
theorem dd_Mo_clear_48 : decode bb_Mo_clear 48 = .ok (.invokevirtual 145, 3) := by decide +kernel
theorem dd_Mo_clear_51 : decode bb_Mo_clear 51 = .ok (.istore_n 2, 1) := by decide +kernel
theorem dd_Mo_clear_52 : decode bb_Mo_clear 52 = .ok (.iload_n 2, 1) := by decide +kernel
theorem dd_Mo_clear_53 : decode bb_Mo_clear 53 = .ok (.iconst 1, 1) := by decide +kernel
theorem dd_Mo_clear_54 : decode bb_Mo_clear 54 = .ok (.if_icmp .eq 7, 3) := by decide +kernel
theorem dd_Mo_clear_57 : decode bb_Mo_clear 57 = .ok (.iload_n 2, 1) := by decide +kernel
theorem dd_Mo_clear_58 : decode bb_Mo_clear 58 = .ok (.ifCond .ne 11, 3) := by decide +kernel
theorem dd_Mo_clear_61 : decode bb_Mo_clear 61 = .ok (.aload_n 0, 1) := by decide +kernel
theorem dd_Mo_clear_62 : decode bb_Mo_clear 62 = .ok (.iconst 2, 1) := by decide +kernel
theorem dd_Mo_clear_63 : decode bb_Mo_clear 63 = .ok (.invokevirtual 134, 3) := by decide +kernel
theorem dd_Mo_clear_66 : decode bb_Mo_clear 66 = .ok (.goto 13, 3) := by decide +kernel
theorem dd_Mo_clear_69 : decode bb_Mo_clear 69 = .ok (.iload_n 2, 1) := by decide +kernel
theorem dd_Mo_clear_70 : decode bb_Mo_clear 70 = .ok (.iconst 2, 1) := by decide +kernel
theorem dd_Mo_clear_71 : decode bb_Mo_clear 71 = .ok (.if_icmp .ne 7, 3) := by decide +kernel
theorem dd_Mo_clear_74 : decode bb_Mo_clear 74 = .ok (.iconst 1, 1) := by decide +kernel
theorem dd_Mo_clear_75 : decode bb_Mo_clear 75 = .ok (.goto 4, 3) := by decide +kernel
theorem dd_Mo_clear_78 : decode bb_Mo_clear 78 = .ok (.iconst 2, 1) := by decide +kernel
theorem dd_Mo_clear_79 : decode bb_Mo_clear 79 = .ok (.ireturn, 1) := by decide +kernel
theorem dd_Mo_tick_0 : decode bb_Mo_tick 0 = .ok (.aload_n 0, 1) := by decide +kernel
theorem dd_Mo_tick_1 : decode bb_Mo_tick 1 = .ok (.iconst 0, 1) := by decide +kernel
theorem dd_Mo_tick_2 : decode bb_Mo_tick 2 = .ok (.putfield 93, 3) := by decide +kernel
theorem dd_Mo_tick_5 : decode bb_Mo_tick 5 = .ok (.iload_n 1, 1) := by decide +kernel
theorem dd_Mo_tick_6 : decode bb_Mo_tick 6 = .ok (.iconst 0, 1) := by decide +kernel
theorem dd_Mo_tick_7 : decode bb_Mo_tick 7 = .ok (.bipush 50, 2) := by decide +kernel
theorem dd_Mo_tick_9 : decode bb_Mo_tick 9 = .ok (.invokestatic 127, 3) := by decide +kernel
theorem dd_Mo_tick_12 : decode bb_Mo_tick 12 = .ok (.ifCond .ne 5, 3) := by decide +kernel
theorem dd_Mo_tick_15 : decode bb_Mo_tick 15 = .ok (.iconst (-1), 1) := by decide +kernel
theorem dd_Mo_tick_16 : decode bb_Mo_tick 16 = .ok (.ireturn, 1) := by decide +kernel
theorem dd_Mo_tick_17 : decode bb_Mo_tick 17 = .ok (.aload_n 0, 1) := by decide +kernel
theorem dd_Mo_tick_18 : decode bb_Mo_tick 18 = .ok (.dup, 1) := by decide +kernel
theorem dd_Mo_tick_19 : decode bb_Mo_tick 19 = .ok (.getfield 110, 3) := by decide +kernel
theorem dd_Mo_tick_22 : decode bb_Mo_tick 22 = .ok (.iload_n 1, 1) := by decide +kernel
theorem dd_Mo_tick_23 : decode bb_Mo_tick 23 = .ok (.iadd, 1) := by decide +kernel
theorem dd_Mo_tick_24 : decode bb_Mo_tick 24 = .ok (.putfield 110, 3) := by decide +kernel
theorem dd_Mo_tick_27 : decode bb_Mo_tick 27 = .ok (.aload_n 0, 1) := by decide +kernel
theorem dd_Mo_tick_28 : decode bb_Mo_tick 28 = .ok (.getfield 110, 3) := by decide +kernel
theorem dd_Mo_tick_31 : decode bb_Mo_tick 31 = .ok (.ireturn, 1) := by decide +kernel
theorem dd_Mo_crash_0 : decode bb_Mo_crash 0 = .ok (.aload_n 0, 1) := by decide +kernel
theorem dd_Mo_crash_1 : decode bb_Mo_crash 1 = .ok (.iconst 0, 1) := by decide +kernel
theorem dd_Mo_crash_2 : decode bb_Mo_crash 2 = .ok (.putfield 93, 3) := by decide +kernel
theorem dd_Mo_crash_5 : decode bb_Mo_crash 5 = .ok (.iload_n 1, 1) := by decide +kernel
theorem dd_Mo_crash_6 : decode bb_Mo_crash 6 = .ok (.iconst 0, 1) := by decide +kernel
theorem dd_Mo_crash_7 : decode bb_Mo_crash 7 = .ok (.iconst 2, 1) := by decide +kernel
theorem dd_Mo_crash_8 : decode bb_Mo_crash 8 = .ok (.invokestatic 127, 3) := by decide +kernel
theorem dd_Mo_crash_11 : decode bb_Mo_crash 11 = .ok (.ifCond .eq 12, 3) := by decide +kernel
theorem dd_Mo_crash_14 : decode bb_Mo_crash 14 = .ok (.aload_n 0, 1) := by decide +kernel
theorem dd_Mo_crash_15 : decode bb_Mo_crash 15 = .ok (.getfield 47, 3) := by decide +kernel
theorem dd_Mo_crash_18 : decode bb_Mo_crash 18 = .ok (.iload_n 1, 1) := by decide +kernel
theorem dd_Mo_crash_19 : decode bb_Mo_crash 19 = .ok (.baload, 1) := by decide +kernel
theorem dd_Mo_crash_20 : decode bb_Mo_crash 20 = .ok (.ifCond .eq 5, 3) := by decide +kernel
theorem dd_Mo_crash_23 : decode bb_Mo_crash 23 = .ok (.iconst 0, 1) := by decide +kernel
theorem dd_Mo_crash_24 : decode bb_Mo_crash 24 = .ok (.ireturn, 1) := by decide +kernel
theorem dd_Mo_crash_25 : decode bb_Mo_crash 25 = .ok (.aload_n 0, 1) := by decide +kernel
theorem dd_Mo_crash_26 : decode bb_Mo_crash 26 = .ok (.getfield 47, 3) := by decide +kernel
theorem dd_Mo_crash_29 : decode bb_Mo_crash 29 = .ok (.iload_n 1, 1) := by decide +kernel
theorem dd_Mo_crash_30 : decode bb_Mo_crash 30 = .ok (.iconst 1, 1) := by decide +kernel
theorem dd_Mo_crash_31 : decode bb_Mo_crash 31 = .ok (.bastore, 1) := by decide +kernel
theorem dd_Mo_crash_32 : decode bb_Mo_crash 32 = .ok (.iconst 1, 1) := by decide +kernel
theorem dd_Mo_crash_33 : decode bb_Mo_crash 33 = .ok (.ireturn, 1) := by decide +kernel
theorem dd_Mo_recover_0 : decode bb_Mo_recover 0 = .ok (.aload_n 0, 1) := by decide +kernel
theorem dd_Mo_recover_1 : decode bb_Mo_recover 1 = .ok (.iconst 0, 1) := by decide +kernel
theorem dd_Mo_recover_2 : decode bb_Mo_recover 2 = .ok (.putfield 93, 3) := by decide +kernel
theorem dd_Mo_recover_5 : decode bb_Mo_recover 5 = .ok (.iload_n 1, 1) := by decide +kernel
theorem dd_Mo_recover_6 : decode bb_Mo_recover 6 = .ok (.iconst 0, 1) := by decide +kernel
theorem dd_Mo_recover_7 : decode bb_Mo_recover 7 = .ok (.iconst 2, 1) := by decide +kernel
theorem dd_Mo_recover_8 : decode bb_Mo_recover 8 = .ok (.invokestatic 127, 3) := by decide +kernel
theorem dd_Mo_recover_11 : decode bb_Mo_recover 11 = .ok (.ifCond .eq 12, 3) := by decide +kernel
theorem dd_Mo_recover_14 : decode bb_Mo_recover 14 = .ok (.aload_n 0, 1) := by decide +kernel
theorem dd_Mo_recover_15 : decode bb_Mo_recover 15 = .ok (.getfield 47, 3) := by decide +kernel
theorem dd_Mo_recover_18 : decode bb_Mo_recover 18 = .ok (.iload_n 1, 1) := by decide +kernel
theorem dd_Mo_recover_19 : decode bb_Mo_recover 19 = .ok (.baload, 1) := by decide +kernel
theorem dd_Mo_recover_20 : decode bb_Mo_recover 20 = .ok (.ifCond .ne 5, 3) := by decide +kernel
theorem dd_Mo_recover_23 : decode bb_Mo_recover 23 = .ok (.iconst 0, 1) := by decide +kernel
theorem dd_Mo_recover_24 : decode bb_Mo_recover 24 = .ok (.ireturn, 1) := by decide +kernel
theorem dd_Mo_recover_25 : decode bb_Mo_recover 25 = .ok (.aload_n 0, 1) := by decide +kernel
theorem dd_Mo_recover_26 : decode bb_Mo_recover 26 = .ok (.getfield 47, 3) := by decide +kernel
theorem dd_Mo_recover_29 : decode bb_Mo_recover 29 = .ok (.iload_n 1, 1) := by decide +kernel
theorem dd_Mo_recover_30 : decode bb_Mo_recover 30 = .ok (.iconst 0, 1) := by decide +kernel
theorem dd_Mo_recover_31 : decode bb_Mo_recover 31 = .ok (.bastore, 1) := by decide +kernel
theorem dd_Mo_recover_32 : decode bb_Mo_recover 32 = .ok (.aload_n 0, 1) := by decide +kernel
theorem dd_Mo_recover_33 : decode bb_Mo_recover 33 = .ok (.getfield 60, 3) := by decide +kernel
theorem dd_Mo_recover_36 : decode bb_Mo_recover 36 = .ok (.iload_n 1, 1) := by decide +kernel
theorem dd_Mo_recover_37 : decode bb_Mo_recover 37 = .ok (.iconst 0, 1) := by decide +kernel
theorem dd_Mo_recover_38 : decode bb_Mo_recover 38 = .ok (.iastore, 1) := by decide +kernel
theorem dd_Mo_recover_39 : decode bb_Mo_recover 39 = .ok (.iconst 1, 1) := by decide +kernel
theorem dd_Mo_recover_40 : decode bb_Mo_recover 40 = .ok (.ireturn, 1) := by decide +kernel
theorem dd_Mo_fail_0 : decode bb_Mo_fail 0 = .ok (.aload_n 0, 1) := by decide +kernel
theorem dd_Mo_fail_1 : decode bb_Mo_fail 1 = .ok (.iconst 0, 1) := by decide +kernel
theorem dd_Mo_fail_2 : decode bb_Mo_fail 2 = .ok (.putfield 93, 3) := by decide +kernel
theorem dd_Mo_fail_5 : decode bb_Mo_fail 5 = .ok (.iload_n 1, 1) := by decide +kernel
theorem dd_Mo_fail_6 : decode bb_Mo_fail 6 = .ok (.iconst 0, 1) := by decide +kernel
theorem dd_Mo_fail_7 : decode bb_Mo_fail 7 = .ok (.iconst 2, 1) := by decide +kernel
theorem dd_Mo_fail_8 : decode bb_Mo_fail 8 = .ok (.invokestatic 127, 3) := by decide +kernel
theorem dd_Mo_fail_11 : decode bb_Mo_fail 11 = .ok (.ifCond .eq 13, 3) := by decide +kernel
theorem dd_Mo_fail_14 : decode bb_Mo_fail 14 = .ok (.iload_n 2, 1) := by decide +kernel
theorem dd_Mo_fail_15 : decode bb_Mo_fail 15 = .ok (.iconst 0, 1) := by decide +kernel
theorem dd_Mo_fail_16 : decode bb_Mo_fail 16 = .ok (.bipush 20, 2) := by decide +kernel
theorem dd_Mo_fail_18 : decode bb_Mo_fail 18 = .ok (.invokestatic 127, 3) := by decide +kernel
theorem dd_Mo_fail_21 : decode bb_Mo_fail 21 = .ok (.ifCond .ne 5, 3) := by decide +kernel
theorem dd_Mo_fail_24 : decode bb_Mo_fail 24 = .ok (.iconst 0, 1) := by decide +kernel
theorem dd_Mo_fail_25 : decode bb_Mo_fail 25 = .ok (.ireturn, 1) := by decide +kernel
theorem dd_Mo_fail_26 : decode bb_Mo_fail 26 = .ok (.aload_n 0, 1) := by decide +kernel
theorem dd_Mo_fail_27 : decode bb_Mo_fail 27 = .ok (.getfield 60, 3) := by decide +kernel
theorem dd_Mo_fail_30 : decode bb_Mo_fail 30 = .ok (.iload_n 1, 1) := by decide +kernel
theorem dd_Mo_fail_31 : decode bb_Mo_fail 31 = .ok (.iload_n 2, 1) := by decide +kernel
theorem dd_Mo_fail_32 : decode bb_Mo_fail 32 = .ok (.iastore, 1) := by decide +kernel
theorem dd_Mo_fail_33 : decode bb_Mo_fail 33 = .ok (.aload_n 0, 1) := by decide +kernel
theorem dd_Mo_fail_34 : decode bb_Mo_fail 34 = .ok (.getfield 63, 3) := by decide +kernel
theorem dd_Mo_fail_37 : decode bb_Mo_fail 37 = .ok (.iload_n 1, 1) := by decide +kernel
theorem dd_Mo_fail_38 : decode bb_Mo_fail 38 = .ok (.iload_n 3, 1) := by decide +kernel
theorem dd_Mo_fail_39 : decode bb_Mo_fail 39 = .ok (.bastore, 1) := by decide +kernel
theorem dd_Mo_fail_40 : decode bb_Mo_fail 40 = .ok (.iconst 1, 1) := by decide +kernel
theorem dd_Mo_fail_41 : decode bb_Mo_fail 41 = .ok (.ireturn, 1) := by decide +kernel
theorem dd_Mo_failOracle_0 : decode bb_Mo_failOracle 0 = .ok (.aload_n 0, 1) := by decide +kernel
theorem dd_Mo_failOracle_1 : decode bb_Mo_failOracle 1 = .ok (.iconst 0, 1) := by decide +kernel
theorem dd_Mo_failOracle_2 : decode bb_Mo_failOracle 2 = .ok (.putfield 93, 3) := by decide +kernel
theorem dd_Mo_failOracle_5 : decode bb_Mo_failOracle 5 = .ok (.aload_n 0, 1) := by decide +kernel
theorem dd_Mo_failOracle_6 : decode bb_Mo_failOracle 6 = .ok (.aload_n 0, 1) := by decide +kernel
theorem dd_Mo_failOracle_7 : decode bb_Mo_failOracle 7 = .ok (.getfield 96, 3) := by decide +kernel
theorem dd_Mo_failOracle_10 : decode bb_Mo_failOracle 10 = .ok (.iconst 1, 1) := by decide +kernel
theorem dd_Mo_failOracle_11 : decode bb_Mo_failOracle 11 = .ok (.iadd, 1) := by decide +kernel
theorem dd_Mo_failOracle_12 : decode bb_Mo_failOracle 12 = .ok (.putfield 7, 3) := by decide +kernel
theorem dd_Mo_failOracle_15 : decode bb_Mo_failOracle 15 = .ok (.aload_n 0, 1) := by decide +kernel
theorem dd_Mo_failOracle_16 : decode bb_Mo_failOracle 16 = .ok (.getfield 7, 3) := by decide +kernel
theorem dd_Mo_failOracle_19 : decode bb_Mo_failOracle 19 = .ok (.ireturn, 1) := by decide +kernel
theorem dd_Mo_sweep_0 : decode bb_Mo_sweep 0 = .ok (.aload_n 0, 1) := by decide +kernel
theorem dd_Mo_sweep_1 : decode bb_Mo_sweep 1 = .ok (.iconst 0, 1) := by decide +kernel
theorem dd_Mo_sweep_2 : decode bb_Mo_sweep 2 = .ok (.putfield 93, 3) := by decide +kernel
theorem dd_Mo_sweep_5 : decode bb_Mo_sweep 5 = .ok (.iload_n 1, 1) := by decide +kernel
theorem dd_Mo_sweep_6 : decode bb_Mo_sweep 6 = .ok (.iconst 1, 1) := by decide +kernel
theorem dd_Mo_sweep_7 : decode bb_Mo_sweep 7 = .ok (.if_icmp .lt 15, 3) := by decide +kernel
theorem dd_Mo_sweep_10 : decode bb_Mo_sweep 10 = .ok (.iload_n 1, 1) := by decide +kernel
theorem dd_Mo_sweep_11 : decode bb_Mo_sweep 11 = .ok (.aload_n 0, 1) := by decide +kernel
theorem dd_Mo_sweep_12 : decode bb_Mo_sweep 12 = .ok (.getfield 7, 3) := by decide +kernel
theorem dd_Mo_sweep_15 : decode bb_Mo_sweep 15 = .ok (.if_icmp .gt 7, 3) := by decide +kernel
theorem dd_Mo_sweep_18 : decode bb_Mo_sweep 18 = .ok (.iconst 1, 1) := by decide +kernel
theorem dd_Mo_sweep_19 : decode bb_Mo_sweep 19 = .ok (.goto 4, 3) := by decide +kernel
theorem dd_Mo_sweep_22 : decode bb_Mo_sweep 22 = .ok (.iconst 0, 1) := by decide +kernel
theorem dd_Mo_sweep_23 : decode bb_Mo_sweep 23 = .ok (.istore_n 2, 1) := by decide +kernel
theorem dd_Mo_sweep_24 : decode bb_Mo_sweep 24 = .ok (.iconst 0, 1) := by decide +kernel
theorem dd_Mo_sweep_25 : decode bb_Mo_sweep 25 = .ok (.istore_n 3, 1) := by decide +kernel
theorem dd_Mo_sweep_26 : decode bb_Mo_sweep 26 = .ok (.iload_n 3, 1) := by decide +kernel
theorem dd_Mo_sweep_27 : decode bb_Mo_sweep 27 = .ok (.iconst 3, 1) := by decide +kernel
theorem dd_Mo_sweep_28 : decode bb_Mo_sweep 28 = .ok (.if_icmp .ge 38, 3) := by decide +kernel
theorem dd_Mo_sweep_31 : decode bb_Mo_sweep 31 = .ok (.iload_n 2, 1) := by decide +kernel
theorem dd_Mo_sweep_32 : decode bb_Mo_sweep 32 = .ok (.ifCond .eq 26, 3) := by decide +kernel
theorem dd_Mo_sweep_35 : decode bb_Mo_sweep 35 = .ok (.aload_n 0, 1) := by decide +kernel
theorem dd_Mo_sweep_36 : decode bb_Mo_sweep 36 = .ok (.getfield 47, 3) := by decide +kernel
theorem dd_Mo_sweep_39 : decode bb_Mo_sweep 39 = .ok (.iload_n 3, 1) := by decide +kernel
theorem dd_Mo_sweep_40 : decode bb_Mo_sweep 40 = .ok (.baload, 1) := by decide +kernel
theorem dd_Mo_sweep_41 : decode bb_Mo_sweep 41 = .ok (.ifCond .ne 17, 3) := by decide +kernel
theorem dd_Mo_sweep_44 : decode bb_Mo_sweep 44 = .ok (.iload_n 1, 1) := by decide +kernel
theorem dd_Mo_sweep_45 : decode bb_Mo_sweep 45 = .ok (.aload_n 0, 1) := by decide +kernel
theorem dd_Mo_sweep_46 : decode bb_Mo_sweep 46 = .ok (.getfield 51, 3) := by decide +kernel
theorem dd_Mo_sweep_49 : decode bb_Mo_sweep 49 = .ok (.iload_n 3, 1) := by decide +kernel
theorem dd_Mo_sweep_50 : decode bb_Mo_sweep 50 = .ok (.iaload, 1) := by decide +kernel
theorem dd_Mo_sweep_51 : decode bb_Mo_sweep 51 = .ok (.if_icmp .le 7, 3) := by decide +kernel
theorem dd_Mo_sweep_54 : decode bb_Mo_sweep 54 = .ok (.iconst 1, 1) := by decide +kernel
theorem dd_Mo_sweep_55 : decode bb_Mo_sweep 55 = .ok (.goto 4, 3) := by decide +kernel
theorem dd_Mo_sweep_58 : decode bb_Mo_sweep 58 = .ok (.iconst 0, 1) := by decide +kernel
theorem dd_Mo_sweep_59 : decode bb_Mo_sweep 59 = .ok (.istore_n 2, 1) := by decide +kernel
theorem dd_Mo_sweep_60 : decode bb_Mo_sweep 60 = .ok (.iinc 3 1, 3) := by decide +kernel
theorem dd_Mo_sweep_63 : decode bb_Mo_sweep 63 = .ok (.goto (-37), 3) := by decide +kernel
theorem dd_Mo_sweep_66 : decode bb_Mo_sweep 66 = .ok (.iconst 0, 1) := by decide +kernel
theorem dd_Mo_sweep_67 : decode bb_Mo_sweep 67 = .ok (.istore_n 3, 1) := by decide +kernel
theorem dd_Mo_sweep_68 : decode bb_Mo_sweep 68 = .ok (.iload_n 3, 1) := by decide +kernel
theorem dd_Mo_sweep_69 : decode bb_Mo_sweep 69 = .ok (.bipush 12, 2) := by decide +kernel
theorem dd_Mo_sweep_71 : decode bb_Mo_sweep 71 = .ok (.if_icmp .ge 38, 3) := by decide +kernel
theorem dd_Mo_sweep_74 : decode bb_Mo_sweep 74 = .ok (.iload_n 2, 1) := by decide +kernel
theorem dd_Mo_sweep_75 : decode bb_Mo_sweep 75 = .ok (.ifCond .eq 26, 3) := by decide +kernel
theorem dd_Mo_sweep_78 : decode bb_Mo_sweep 78 = .ok (.aload_n 0, 1) := by decide +kernel
theorem dd_Mo_sweep_79 : decode bb_Mo_sweep 79 = .ok (.getfield 13, 3) := by decide +kernel
theorem dd_Mo_sweep_82 : decode bb_Mo_sweep 82 = .ok (.iload_n 3, 1) := by decide +kernel
theorem dd_Mo_sweep_83 : decode bb_Mo_sweep 83 = .ok (.iaload, 1) := by decide +kernel
theorem dd_Mo_sweep_84 : decode bb_Mo_sweep 84 = .ok (.ifCond .eq 13, 3) := by decide +kernel
theorem dd_Mo_sweep_87 : decode bb_Mo_sweep 87 = .ok (.aload_n 0, 1) := by decide +kernel
theorem dd_Mo_sweep_88 : decode bb_Mo_sweep 88 = .ok (.getfield 13, 3) := by decide +kernel
theorem dd_Mo_sweep_91 : decode bb_Mo_sweep 91 = .ok (.iload_n 3, 1) := by decide +kernel
theorem dd_Mo_sweep_92 : decode bb_Mo_sweep 92 = .ok (.iaload, 1) := by decide +kernel
theorem dd_Mo_sweep_93 : decode bb_Mo_sweep 93 = .ok (.iload_n 1, 1) := by decide +kernel
theorem dd_Mo_sweep_94 : decode bb_Mo_sweep 94 = .ok (.if_icmp .lt 7, 3) := by decide +kernel
theorem dd_Mo_sweep_97 : decode bb_Mo_sweep 97 = .ok (.iconst 1, 1) := by decide +kernel
theorem dd_Mo_sweep_98 : decode bb_Mo_sweep 98 = .ok (.goto 4, 3) := by decide +kernel
theorem dd_Mo_sweep_101 : decode bb_Mo_sweep 101 = .ok (.iconst 0, 1) := by decide +kernel
theorem dd_Mo_sweep_102 : decode bb_Mo_sweep 102 = .ok (.istore_n 2, 1) := by decide +kernel
theorem dd_Mo_sweep_103 : decode bb_Mo_sweep 103 = .ok (.iinc 3 1, 3) := by decide +kernel
theorem dd_Mo_sweep_106 : decode bb_Mo_sweep 106 = .ok (.goto (-38), 3) := by decide +kernel
theorem dd_Mo_sweep_109 : decode bb_Mo_sweep 109 = .ok (.iconst 0, 1) := by decide +kernel
theorem dd_Mo_sweep_110 : decode bb_Mo_sweep 110 = .ok (.istore_n 3, 1) := by decide +kernel
theorem dd_Mo_sweep_111 : decode bb_Mo_sweep 111 = .ok (.iload_n 3, 1) := by decide +kernel
theorem dd_Mo_sweep_112 : decode bb_Mo_sweep 112 = .ok (.iconst 4, 1) := by decide +kernel
theorem dd_Mo_sweep_113 : decode bb_Mo_sweep 113 = .ok (.if_icmp .ge 39, 3) := by decide +kernel
theorem dd_Mo_sweep_116 : decode bb_Mo_sweep 116 = .ok (.iload_n 2, 1) := by decide +kernel
theorem dd_Mo_sweep_117 : decode bb_Mo_sweep 117 = .ok (.ifCond .eq 27, 3) := by decide +kernel
theorem dd_Mo_sweep_120 : decode bb_Mo_sweep 120 = .ok (.aload_n 0, 1) := by decide +kernel
theorem dd_Mo_sweep_121 : decode bb_Mo_sweep 121 = .ok (.getfield 66, 3) := by decide +kernel
theorem dd_Mo_sweep_124 : decode bb_Mo_sweep 124 = .ok (.iload_n 3, 1) := by decide +kernel
theorem dd_Mo_sweep_125 : decode bb_Mo_sweep 125 = .ok (.iaload, 1) := by decide +kernel
theorem dd_Mo_sweep_126 : decode bb_Mo_sweep 126 = .ok (.iconst 2, 1) := by decide +kernel
theorem dd_Mo_sweep_127 : decode bb_Mo_sweep 127 = .ok (.if_icmp .ne 13, 3) := by decide +kernel
theorem dd_Mo_sweep_130 : decode bb_Mo_sweep 130 = .ok (.aload_n 0, 1) := by decide +kernel
theorem dd_Mo_sweep_131 : decode bb_Mo_sweep 131 = .ok (.getfield 69, 3) := by decide +kernel
theorem dd_Mo_sweep_134 : decode bb_Mo_sweep 134 = .ok (.iload_n 3, 1) := by decide +kernel
theorem dd_Mo_sweep_135 : decode bb_Mo_sweep 135 = .ok (.iaload, 1) := by decide +kernel
theorem dd_Mo_sweep_136 : decode bb_Mo_sweep 136 = .ok (.iload_n 1, 1) := by decide +kernel
theorem dd_Mo_sweep_137 : decode bb_Mo_sweep 137 = .ok (.if_icmp .lt 7, 3) := by decide +kernel
theorem dd_Mo_sweep_140 : decode bb_Mo_sweep 140 = .ok (.iconst 1, 1) := by decide +kernel
theorem dd_Mo_sweep_141 : decode bb_Mo_sweep 141 = .ok (.goto 4, 3) := by decide +kernel
theorem dd_Mo_sweep_144 : decode bb_Mo_sweep 144 = .ok (.iconst 0, 1) := by decide +kernel
theorem dd_Mo_sweep_145 : decode bb_Mo_sweep 145 = .ok (.istore_n 2, 1) := by decide +kernel
theorem dd_Mo_sweep_146 : decode bb_Mo_sweep 146 = .ok (.iinc 3 1, 3) := by decide +kernel
theorem dd_Mo_sweep_149 : decode bb_Mo_sweep 149 = .ok (.goto (-38), 3) := by decide +kernel
theorem dd_Mo_sweep_152 : decode bb_Mo_sweep 152 = .ok (.iload_n 2, 1) := by decide +kernel
theorem dd_Mo_sweep_153 : decode bb_Mo_sweep 153 = .ok (.ifCond .ne 5, 3) := by decide +kernel
theorem dd_Mo_sweep_156 : decode bb_Mo_sweep 156 = .ok (.iconst (-1), 1) := by decide +kernel
theorem dd_Mo_sweep_157 : decode bb_Mo_sweep 157 = .ok (.ireturn, 1) := by decide +kernel
theorem dd_Mo_sweep_158 : decode bb_Mo_sweep 158 = .ok (.iconst 0, 1) := by decide +kernel
theorem dd_Mo_sweep_159 : decode bb_Mo_sweep 159 = .ok (.istore_n 3, 1) := by decide +kernel
theorem dd_Mo_sweep_160 : decode bb_Mo_sweep 160 = .ok (.iconst 1, 1) := by decide +kernel
theorem dd_Mo_sweep_161 : decode bb_Mo_sweep 161 = .ok (.istore 4, 2) := by decide +kernel
theorem dd_Mo_sweep_163 : decode bb_Mo_sweep 163 = .ok (.iconst 0, 1) := by decide +kernel
theorem dd_Mo_sweep_164 : decode bb_Mo_sweep 164 = .ok (.istore 5, 2) := by decide +kernel
theorem dd_Mo_sweep_166 : decode bb_Mo_sweep 166 = .ok (.iload 5, 2) := by decide +kernel
theorem dd_Mo_sweep_168 : decode bb_Mo_sweep 168 = .ok (.iconst 3, 1) := by decide +kernel
theorem dd_Mo_sweep_169 : decode bb_Mo_sweep 169 = .ok (.if_icmp .ge 54, 3) := by decide +kernel
theorem dd_Mo_sweep_172 : decode bb_Mo_sweep 172 = .ok (.iload 4, 2) := by decide +kernel
theorem dd_Mo_sweep_174 : decode bb_Mo_sweep 174 = .ok (.ifCond .eq 49, 3) := by decide +kernel
theorem dd_Mo_sweep_177 : decode bb_Mo_sweep 177 = .ok (.aload_n 0, 1) := by decide +kernel
theorem dd_Mo_sweep_178 : decode bb_Mo_sweep 178 = .ok (.iload 5, 2) := by decide +kernel
theorem dd_Mo_sweep_180 : decode bb_Mo_sweep 180 = .ok (.invokevirtual 102, 3) := by decide +kernel
theorem dd_Mo_sweep_183 : decode bb_Mo_sweep 183 = .ok (.istore 6, 2) := by decide +kernel
theorem dd_Mo_sweep_185 : decode bb_Mo_sweep 185 = .ok (.iload 6, 2) := by decide +kernel
theorem dd_Mo_sweep_187 : decode bb_Mo_sweep 187 = .ok (.ifCond .eq 13, 3) := by decide +kernel
theorem dd_Mo_sweep_190 : decode bb_Mo_sweep 190 = .ok (.aload_n 0, 1) := by decide +kernel
theorem dd_Mo_sweep_191 : decode bb_Mo_sweep 191 = .ok (.iload 5, 2) := by decide +kernel
theorem dd_Mo_sweep_193 : decode bb_Mo_sweep 193 = .ok (.iload_n 1, 1) := by decide +kernel
theorem dd_Mo_sweep_194 : decode bb_Mo_sweep 194 = .ok (.invokevirtual 180, 3) := by decide +kernel
theorem dd_Mo_sweep_197 : decode bb_Mo_sweep 197 = .ok (.iinc 3 1, 3) := by decide +kernel
theorem dd_Mo_sweep_200 : decode bb_Mo_sweep 200 = .ok (.aload_n 0, 1) := by decide +kernel
theorem dd_Mo_sweep_201 : decode bb_Mo_sweep 201 = .ok (.getfield 47, 3) := by decide +kernel
theorem dd_Mo_sweep_204 : decode bb_Mo_sweep 204 = .ok (.iload 5, 2) := by decide +kernel
theorem dd_Mo_sweep_206 : decode bb_Mo_sweep 206 = .ok (.baload, 1) := by decide +kernel
theorem dd_Mo_sweep_207 : decode bb_Mo_sweep 207 = .ok (.ifCond .ne 7, 3) := by decide +kernel
theorem dd_Mo_sweep_210 : decode bb_Mo_sweep 210 = .ok (.iconst 1, 1) := by decide +kernel
theorem dd_Mo_sweep_211 : decode bb_Mo_sweep 211 = .ok (.goto 4, 3) := by decide +kernel
theorem dd_Mo_sweep_214 : decode bb_Mo_sweep 214 = .ok (.iconst 0, 1) := by decide +kernel
theorem dd_Mo_sweep_215 : decode bb_Mo_sweep 215 = .ok (.istore 4, 2) := by decide +kernel
theorem dd_Mo_sweep_217 : decode bb_Mo_sweep 217 = .ok (.iinc 5 1, 3) := by decide +kernel
theorem dd_Mo_sweep_220 : decode bb_Mo_sweep 220 = .ok (.goto (-54), 3) := by decide +kernel
theorem dd_Mo_sweep_223 : decode bb_Mo_sweep 223 = .ok (.iload_n 3, 1) := by decide +kernel
theorem dd_Mo_sweep_224 : decode bb_Mo_sweep 224 = .ok (.ireturn, 1) := by decide +kernel
theorem dd_Mo_sweepTablet_0 : decode bb_Mo_sweepTablet 0 = .ok (.aload_n 0, 1) := by decide +kernel
theorem dd_Mo_sweepTablet_1 : decode bb_Mo_sweepTablet 1 = .ok (.getfield 51, 3) := by decide +kernel
theorem dd_Mo_sweepTablet_4 : decode bb_Mo_sweepTablet 4 = .ok (.iload_n 1, 1) := by decide +kernel
theorem dd_Mo_sweepTablet_5 : decode bb_Mo_sweepTablet 5 = .ok (.iload_n 2, 1) := by decide +kernel
theorem dd_Mo_sweepTablet_6 : decode bb_Mo_sweepTablet 6 = .ok (.iastore, 1) := by decide +kernel
theorem dd_Mo_sweepTablet_7 : decode bb_Mo_sweepTablet 7 = .ok (.iconst 4, 1) := by decide +kernel
theorem dd_Mo_sweepTablet_8 : decode bb_Mo_sweepTablet 8 = .ok (.iload_n 1, 1) := by decide +kernel
theorem dd_Mo_sweepTablet_9 : decode bb_Mo_sweepTablet 9 = .ok (.imul, 1) := by decide +kernel
theorem dd_Mo_sweepTablet_10 : decode bb_Mo_sweepTablet 10 = .ok (.istore_n 3, 1) := by decide +kernel
theorem dd_Mo_sweepTablet_11 : decode bb_Mo_sweepTablet 11 = .ok (.iload_n 3, 1) := by decide +kernel
theorem dd_Mo_sweepTablet_12 : decode bb_Mo_sweepTablet 12 = .ok (.iconst 4, 1) := by decide +kernel
theorem dd_Mo_sweepTablet_13 : decode bb_Mo_sweepTablet 13 = .ok (.iload_n 1, 1) := by decide +kernel
theorem dd_Mo_sweepTablet_14 : decode bb_Mo_sweepTablet 14 = .ok (.imul, 1) := by decide +kernel
theorem dd_Mo_sweepTablet_15 : decode bb_Mo_sweepTablet 15 = .ok (.iconst 4, 1) := by decide +kernel
theorem dd_Mo_sweepTablet_16 : decode bb_Mo_sweepTablet 16 = .ok (.iadd, 1) := by decide +kernel
theorem dd_Mo_sweepTablet_17 : decode bb_Mo_sweepTablet 17 = .ok (.if_icmp .ge 96, 3) := by decide +kernel
theorem dd_Mo_sweepTablet_20 : decode bb_Mo_sweepTablet 20 = .ok (.aload_n 0, 1) := by decide +kernel
theorem dd_Mo_sweepTablet_21 : decode bb_Mo_sweepTablet 21 = .ok (.iload_n 3, 1) := by decide +kernel
theorem dd_Mo_sweepTablet_22 : decode bb_Mo_sweepTablet 22 = .ok (.iload_n 2, 1) := by decide +kernel
theorem dd_Mo_sweepTablet_23 : decode bb_Mo_sweepTablet 23 = .ok (.invokevirtual 148, 3) := by decide +kernel
theorem dd_Mo_sweepTablet_26 : decode bb_Mo_sweepTablet 26 = .ok (.istore 4, 2) := by decide +kernel
theorem dd_Mo_sweepTablet_28 : decode bb_Mo_sweepTablet 28 = .ok (.iload 4, 2) := by decide +kernel
theorem dd_Mo_sweepTablet_30 : decode bb_Mo_sweepTablet 30 = .ok (.ifCond .lt 18, 3) := by decide +kernel
theorem dd_Mo_sweepTablet_33 : decode bb_Mo_sweepTablet 33 = .ok (.aload_n 0, 1) := by decide +kernel
theorem dd_Mo_sweepTablet_34 : decode bb_Mo_sweepTablet 34 = .ok (.getfield 41, 3) := by decide +kernel
theorem dd_Mo_sweepTablet_37 : decode bb_Mo_sweepTablet 37 = .ok (.iload 4, 2) := by decide +kernel
theorem dd_Mo_sweepTablet_39 : decode bb_Mo_sweepTablet 39 = .ok (.iaload, 1) := by decide +kernel
theorem dd_Mo_sweepTablet_40 : decode bb_Mo_sweepTablet 40 = .ok (.iconst 2, 1) := by decide +kernel
theorem dd_Mo_sweepTablet_41 : decode bb_Mo_sweepTablet 41 = .ok (.if_icmp .ne 7, 3) := by decide +kernel
theorem dd_Mo_sweepTablet_44 : decode bb_Mo_sweepTablet 44 = .ok (.iconst (-1), 1) := by decide +kernel
theorem dd_Mo_sweepTablet_45 : decode bb_Mo_sweepTablet 45 = .ok (.goto 5, 3) := by decide +kernel
theorem dd_Mo_sweepTablet_48 : decode bb_Mo_sweepTablet 48 = .ok (.iload 4, 2) := by decide +kernel
theorem dd_Mo_sweepTablet_50 : decode bb_Mo_sweepTablet 50 = .ok (.istore 4, 2) := by decide +kernel
theorem dd_Mo_sweepTablet_52 : decode bb_Mo_sweepTablet 52 = .ok (.iconst 0, 1) := by decide +kernel
theorem dd_Mo_sweepTablet_53 : decode bb_Mo_sweepTablet 53 = .ok (.istore 5, 2) := by decide +kernel
theorem dd_Mo_sweepTablet_55 : decode bb_Mo_sweepTablet 55 = .ok (.iload 5, 2) := by decide +kernel
theorem dd_Mo_sweepTablet_57 : decode bb_Mo_sweepTablet 57 = .ok (.aload_n 0, 1) := by decide +kernel
theorem dd_Mo_sweepTablet_58 : decode bb_Mo_sweepTablet 58 = .ok (.getfield 99, 3) := by decide +kernel
theorem dd_Mo_sweepTablet_61 : decode bb_Mo_sweepTablet 61 = .ok (.if_icmp .ge 46, 3) := by decide +kernel
theorem dd_Mo_sweepTablet_64 : decode bb_Mo_sweepTablet 64 = .ok (.aload_n 0, 1) := by decide +kernel
theorem dd_Mo_sweepTablet_65 : decode bb_Mo_sweepTablet 65 = .ok (.getfield 32, 3) := by decide +kernel
theorem dd_Mo_sweepTablet_68 : decode bb_Mo_sweepTablet 68 = .ok (.iload 5, 2) := by decide +kernel
theorem dd_Mo_sweepTablet_70 : decode bb_Mo_sweepTablet 70 = .ok (.iaload, 1) := by decide +kernel
theorem dd_Mo_sweepTablet_71 : decode bb_Mo_sweepTablet 71 = .ok (.iload_n 3, 1) := by decide +kernel
theorem dd_Mo_sweepTablet_72 : decode bb_Mo_sweepTablet 72 = .ok (.if_icmp .ne 29, 3) := by decide +kernel
theorem dd_Mo_sweepTablet_75 : decode bb_Mo_sweepTablet 75 = .ok (.aload_n 0, 1) := by decide +kernel
theorem dd_Mo_sweepTablet_76 : decode bb_Mo_sweepTablet 76 = .ok (.getfield 35, 3) := by decide +kernel
theorem dd_Mo_sweepTablet_79 : decode bb_Mo_sweepTablet 79 = .ok (.iload 5, 2) := by decide +kernel
theorem dd_Mo_sweepTablet_81 : decode bb_Mo_sweepTablet 81 = .ok (.iaload, 1) := by decide +kernel
theorem dd_Mo_sweepTablet_82 : decode bb_Mo_sweepTablet 82 = .ok (.iload_n 2, 1) := by decide +kernel
theorem dd_Mo_sweepTablet_83 : decode bb_Mo_sweepTablet 83 = .ok (.if_icmp .ge 18, 3) := by decide +kernel
theorem dd_Mo_sweepTablet_86 : decode bb_Mo_sweepTablet 86 = .ok (.iload 5, 2) := by decide +kernel
theorem dd_Mo_sweepTablet_88 : decode bb_Mo_sweepTablet 88 = .ok (.iload 4, 2) := by decide +kernel
theorem dd_Mo_sweepTablet_90 : decode bb_Mo_sweepTablet 90 = .ok (.if_icmp .eq 11, 3) := by decide +kernel
theorem dd_Mo_sweepTablet_93 : decode bb_Mo_sweepTablet 93 = .ok (.aload_n 0, 1) := by decide +kernel
theorem dd_Mo_sweepTablet_94 : decode bb_Mo_sweepTablet 94 = .ok (.getfield 41, 3) := by decide +kernel
theorem dd_Mo_sweepTablet_97 : decode bb_Mo_sweepTablet 97 = .ok (.iload 5, 2) := by decide +kernel
theorem dd_Mo_sweepTablet_99 : decode bb_Mo_sweepTablet 99 = .ok (.iconst 0, 1) := by decide +kernel
theorem dd_Mo_sweepTablet_100 : decode bb_Mo_sweepTablet 100 = .ok (.iastore, 1) := by decide +kernel
theorem dd_Mo_sweepTablet_101 : decode bb_Mo_sweepTablet 101 = .ok (.iinc 5 1, 3) := by decide +kernel
theorem dd_Mo_sweepTablet_104 : decode bb_Mo_sweepTablet 104 = .ok (.goto (-49), 3) := by decide +kernel
theorem dd_Mo_sweepTablet_107 : decode bb_Mo_sweepTablet 107 = .ok (.iinc 3 1, 3) := by decide +kernel
theorem dd_Mo_sweepTablet_110 : decode bb_Mo_sweepTablet 110 = .ok (.goto (-99), 3) := by decide +kernel
theorem dd_Mo_sweepTablet_113 : decode bb_Mo_sweepTablet 113 = .ok (.return_, 1) := by decide +kernel
theorem dd_Mo_transaction_0 : decode bb_Mo_transaction 0 = .ok (.aload_n 0, 1) := by decide +kernel
theorem dd_Mo_transaction_1 : decode bb_Mo_transaction 1 = .ok (.iconst 0, 1) := by decide +kernel
theorem dd_Mo_transaction_2 : decode bb_Mo_transaction 2 = .ok (.putfield 93, 3) := by decide +kernel
theorem dd_Mo_transaction_5 : decode bb_Mo_transaction 5 = .ok (.aload_n 0, 1) := by decide +kernel
theorem dd_Mo_transaction_6 : decode bb_Mo_transaction 6 = .ok (.iload_n 1, 1) := by decide +kernel
theorem dd_Mo_transaction_7 : decode bb_Mo_transaction 7 = .ok (.invokevirtual 131, 3) := by decide +kernel
theorem dd_Mo_transaction_10 : decode bb_Mo_transaction 10 = .ok (.ifCond .eq 12, 3) := by decide +kernel
theorem dd_Mo_transaction_13 : decode bb_Mo_transaction 13 = .ok (.iload_n 2, 1) := by decide +kernel
theorem dd_Mo_transaction_14 : decode bb_Mo_transaction 14 = .ok (.iconst 0, 1) := by decide +kernel
theorem dd_Mo_transaction_15 : decode bb_Mo_transaction 15 = .ok (.iconst 5, 1) := by decide +kernel
theorem dd_Mo_transaction_16 : decode bb_Mo_transaction 16 = .ok (.invokestatic 127, 3) := by decide +kernel
theorem dd_Mo_transaction_19 : decode bb_Mo_transaction 19 = .ok (.ifCond .ne 5, 3) := by decide +kernel
theorem dd_Mo_transaction_22 : decode bb_Mo_transaction 22 = .ok (.iconst (-1), 1) := by decide +kernel
theorem dd_Mo_transaction_23 : decode bb_Mo_transaction 23 = .ok (.ireturn, 1) := by decide +kernel
theorem dd_Mo_transaction_24 : decode bb_Mo_transaction 24 = .ok (.aload_n 0, 1) := by decide +kernel
theorem dd_Mo_transaction_25 : decode bb_Mo_transaction 25 = .ok (.getfield 66, 3) := by decide +kernel
theorem dd_Mo_transaction_28 : decode bb_Mo_transaction 28 = .ok (.iload_n 1, 1) := by decide +kernel
theorem dd_Mo_transaction_29 : decode bb_Mo_transaction 29 = .ok (.iaload, 1) := by decide +kernel
theorem dd_Mo_transaction_30 : decode bb_Mo_transaction 30 = .ok (.ifCond .ne 5, 3) := by decide +kernel
theorem dd_Mo_transaction_33 : decode bb_Mo_transaction 33 = .ok (.iconst 0, 1) := by decide +kernel
theorem dd_Mo_transaction_34 : decode bb_Mo_transaction 34 = .ok (.ireturn, 1) := by decide +kernel
theorem dd_Mo_transaction_35 : decode bb_Mo_transaction 35 = .ok (.iconst 0, 1) := by decide +kernel
theorem dd_Mo_transaction_36 : decode bb_Mo_transaction 36 = .ok (.istore_n 3, 1) := by decide +kernel
theorem dd_Mo_transaction_37 : decode bb_Mo_transaction 37 = .ok (.iconst 0, 1) := by decide +kernel
theorem dd_Mo_transaction_38 : decode bb_Mo_transaction 38 = .ok (.istore 4, 2) := by decide +kernel
theorem dd_Mo_transaction_40 : decode bb_Mo_transaction 40 = .ok (.iload 4, 2) := by decide +kernel
theorem dd_Mo_transaction_42 : decode bb_Mo_transaction 42 = .ok (.bipush 12, 2) := by decide +kernel
theorem dd_Mo_transaction_44 : decode bb_Mo_transaction 44 = .ok (.if_icmp .ge 53, 3) := by decide +kernel
theorem dd_Mo_transaction_47 : decode bb_Mo_transaction 47 = .ok (.bipush 12, 2) := by decide +kernel
theorem dd_Mo_transaction_49 : decode bb_Mo_transaction 49 = .ok (.iload_n 1, 1) := by decide +kernel
theorem dd_Mo_transaction_50 : decode bb_Mo_transaction 50 = .ok (.imul, 1) := by decide +kernel
theorem dd_Mo_transaction_51 : decode bb_Mo_transaction 51 = .ok (.iload 4, 2) := by decide +kernel
theorem dd_Mo_transaction_53 : decode bb_Mo_transaction 53 = .ok (.iadd, 1) := by decide +kernel
theorem dd_Mo_transaction_54 : decode bb_Mo_transaction 54 = .ok (.istore 5, 2) := by decide +kernel
theorem dd_Mo_transaction_56 : decode bb_Mo_transaction 56 = .ok (.iload_n 2, 1) := by decide +kernel
theorem dd_Mo_transaction_57 : decode bb_Mo_transaction 57 = .ok (.iconst 3, 1) := by decide +kernel
theorem dd_Mo_transaction_58 : decode bb_Mo_transaction 58 = .ok (.if_icmp .ne 16, 3) := by decide +kernel
theorem dd_Mo_transaction_61 : decode bb_Mo_transaction 61 = .ok (.aload_n 0, 1) := by decide +kernel
theorem dd_Mo_transaction_62 : decode bb_Mo_transaction 62 = .ok (.getfield 78, 3) := by decide +kernel
theorem dd_Mo_transaction_65 : decode bb_Mo_transaction 65 = .ok (.iload 5, 2) := by decide +kernel
theorem dd_Mo_transaction_67 : decode bb_Mo_transaction 67 = .ok (.iaload, 1) := by decide +kernel
theorem dd_Mo_transaction_68 : decode bb_Mo_transaction 68 = .ok (.ifCond .le 23, 3) := by decide +kernel
theorem dd_Mo_transaction_71 : decode bb_Mo_transaction 71 = .ok (.goto 13, 3) := by decide +kernel
theorem dd_Mo_transaction_74 : decode bb_Mo_transaction 74 = .ok (.aload_n 0, 1) := by decide +kernel
theorem dd_Mo_transaction_75 : decode bb_Mo_transaction 75 = .ok (.getfield 84, 3) := by decide +kernel
theorem dd_Mo_transaction_78 : decode bb_Mo_transaction 78 = .ok (.iload 5, 2) := by decide +kernel
theorem dd_Mo_transaction_80 : decode bb_Mo_transaction 80 = .ok (.baload, 1) := by decide +kernel
theorem dd_Mo_transaction_81 : decode bb_Mo_transaction 81 = .ok (.ifCond .eq 10, 3) := by decide +kernel
theorem dd_Mo_transaction_84 : decode bb_Mo_transaction 84 = .ok (.iload_n 3, 1) := by decide +kernel
theorem dd_Mo_transaction_85 : decode bb_Mo_transaction 85 = .ok (.iconst 1, 1) := by decide +kernel
theorem dd_Mo_transaction_86 : decode bb_Mo_transaction 86 = .ok (.iload 4, 2) := by decide +kernel
theorem dd_Mo_transaction_88 : decode bb_Mo_transaction 88 = .ok (.ishl, 1) := by decide +kernel
theorem dd_Mo_transaction_89 : decode bb_Mo_transaction 89 = .ok (.iadd, 1) := by decide +kernel
theorem dd_Mo_transaction_90 : decode bb_Mo_transaction 90 = .ok (.istore_n 3, 1) := by decide +kernel
theorem dd_Mo_transaction_91 : decode bb_Mo_transaction 91 = .ok (.iinc 4 1, 3) := by decide +kernel
theorem dd_Mo_transaction_94 : decode bb_Mo_transaction 94 = .ok (.goto (-54), 3) := by decide +kernel
theorem dd_Mo_transaction_97 : decode bb_Mo_transaction 97 = .ok (.iload_n 2, 1) := by decide +kernel
theorem dd_Mo_transaction_98 : decode bb_Mo_transaction 98 = .ok (.ifCond .ne 12, 3) := by decide +kernel
theorem dd_Mo_transaction_101 : decode bb_Mo_transaction 101 = .ok (.aload_n 0, 1) := by decide +kernel
theorem dd_Mo_transaction_102 : decode bb_Mo_transaction 102 = .ok (.getfield 66, 3) := by decide +kernel
theorem dd_Mo_transaction_105 : decode bb_Mo_transaction 105 = .ok (.iload_n 1, 1) := by decide +kernel
theorem dd_Mo_transaction_106 : decode bb_Mo_transaction 106 = .ok (.iaload, 1) := by decide +kernel
theorem dd_Mo_transaction_107 : decode bb_Mo_transaction 107 = .ok (.goto 54, 3) := by decide +kernel
theorem dd_Mo_transaction_110 : decode bb_Mo_transaction 110 = .ok (.iload_n 2, 1) := by decide +kernel
theorem dd_Mo_transaction_111 : decode bb_Mo_transaction 111 = .ok (.iconst 1, 1) := by decide +kernel
theorem dd_Mo_transaction_112 : decode bb_Mo_transaction 112 = .ok (.if_icmp .ne 12, 3) := by decide +kernel
theorem dd_Mo_transaction_115 : decode bb_Mo_transaction 115 = .ok (.aload_n 0, 1) := by decide +kernel
theorem dd_Mo_transaction_116 : decode bb_Mo_transaction 116 = .ok (.getfield 69, 3) := by decide +kernel
theorem dd_Mo_transaction_119 : decode bb_Mo_transaction 119 = .ok (.iload_n 1, 1) := by decide +kernel
theorem dd_Mo_transaction_120 : decode bb_Mo_transaction 120 = .ok (.iaload, 1) := by decide +kernel
theorem dd_Mo_transaction_121 : decode bb_Mo_transaction 121 = .ok (.goto 40, 3) := by decide +kernel
theorem dd_Mo_transaction_124 : decode bb_Mo_transaction 124 = .ok (.iload_n 2, 1) := by decide +kernel
theorem dd_Mo_transaction_125 : decode bb_Mo_transaction 125 = .ok (.iconst 2, 1) := by decide +kernel
theorem dd_Mo_transaction_126 : decode bb_Mo_transaction 126 = .ok (.if_icmp .ne 12, 3) := by decide +kernel
theorem dd_Mo_transaction_129 : decode bb_Mo_transaction 129 = .ok (.aload_n 0, 1) := by decide +kernel
theorem dd_Mo_transaction_130 : decode bb_Mo_transaction 130 = .ok (.getfield 72, 3) := by decide +kernel
theorem dd_Mo_transaction_133 : decode bb_Mo_transaction 133 = .ok (.iload_n 1, 1) := by decide +kernel
theorem dd_Mo_transaction_134 : decode bb_Mo_transaction 134 = .ok (.iaload, 1) := by decide +kernel
theorem dd_Mo_transaction_135 : decode bb_Mo_transaction 135 = .ok (.goto 26, 3) := by decide +kernel
theorem dd_Mo_transaction_138 : decode bb_Mo_transaction 138 = .ok (.iload_n 2, 1) := by decide +kernel
theorem dd_Mo_transaction_139 : decode bb_Mo_transaction 139 = .ok (.iconst 5, 1) := by decide +kernel
theorem dd_Mo_transaction_140 : decode bb_Mo_transaction 140 = .ok (.if_icmp .ge 7, 3) := by decide +kernel
theorem dd_Mo_transaction_143 : decode bb_Mo_transaction 143 = .ok (.iload_n 3, 1) := by decide +kernel
theorem dd_Mo_transaction_144 : decode bb_Mo_transaction 144 = .ok (.goto 17, 3) := by decide +kernel
theorem dd_Mo_transaction_147 : decode bb_Mo_transaction 147 = .ok (.aload_n 0, 1) := by decide +kernel
theorem dd_Mo_transaction_148 : decode bb_Mo_transaction 148 = .ok (.getfield 75, 3) := by decide +kernel
theorem dd_Mo_transaction_151 : decode bb_Mo_transaction 151 = .ok (.iload_n 1, 1) := by decide +kernel
theorem dd_Mo_transaction_152 : decode bb_Mo_transaction 152 = .ok (.baload, 1) := by decide +kernel
theorem dd_Mo_transaction_153 : decode bb_Mo_transaction 153 = .ok (.ifCond .eq 7, 3) := by decide +kernel
theorem dd_Mo_transaction_156 : decode bb_Mo_transaction 156 = .ok (.iconst 1, 1) := by decide +kernel
theorem dd_Mo_transaction_157 : decode bb_Mo_transaction 157 = .ok (.goto 4, 3) := by decide +kernel
theorem dd_Mo_transaction_160 : decode bb_Mo_transaction 160 = .ok (.iconst 0, 1) := by decide +kernel
theorem dd_Mo_transaction_161 : decode bb_Mo_transaction 161 = .ok (.ireturn, 1) := by decide +kernel
theorem dd_Mo_lock_0 : decode bb_Mo_lock 0 = .ok (.aload_n 0, 1) := by decide +kernel
theorem dd_Mo_lock_1 : decode bb_Mo_lock 1 = .ok (.iconst 0, 1) := by decide +kernel
theorem dd_Mo_lock_2 : decode bb_Mo_lock 2 = .ok (.putfield 93, 3) := by decide +kernel
theorem dd_Mo_lock_5 : decode bb_Mo_lock 5 = .ok (.iload_n 1, 1) := by decide +kernel
theorem dd_Mo_lock_6 : decode bb_Mo_lock 6 = .ok (.invokestatic 142, 3) := by decide +kernel
theorem dd_Mo_lock_9 : decode bb_Mo_lock 9 = .ok (.ifCond .eq 32, 3) := by decide +kernel
theorem dd_Mo_lock_12 : decode bb_Mo_lock 12 = .ok (.iload_n 2, 1) := by decide +kernel
theorem dd_Mo_lock_13 : decode bb_Mo_lock 13 = .ok (.iconst 0, 1) := by decide +kernel
theorem dd_Mo_lock_14 : decode bb_Mo_lock 14 = .ok (.iconst 5, 1) := by decide +kernel
theorem dd_Mo_lock_15 : decode bb_Mo_lock 15 = .ok (.invokestatic 127, 3) := by decide +kernel
theorem dd_Mo_lock_18 : decode bb_Mo_lock 18 = .ok (.ifCond .eq 23, 3) := by decide +kernel
theorem dd_Mo_lock_21 : decode bb_Mo_lock 21 = .ok (.aload_n 0, 1) := by decide +kernel
theorem dd_Mo_lock_22 : decode bb_Mo_lock 22 = .ok (.getfield 13, 3) := by decide +kernel
theorem dd_Mo_lock_25 : decode bb_Mo_lock 25 = .ok (.iload_n 1, 1) := by decide +kernel
theorem dd_Mo_lock_26 : decode bb_Mo_lock 26 = .ok (.iaload, 1) := by decide +kernel
theorem dd_Mo_lock_27 : decode bb_Mo_lock 27 = .ok (.ifCond .eq 14, 3) := by decide +kernel
theorem dd_Mo_lock_30 : decode bb_Mo_lock 30 = .ok (.aload_n 0, 1) := by decide +kernel
theorem dd_Mo_lock_31 : decode bb_Mo_lock 31 = .ok (.getfield 47, 3) := by decide +kernel
theorem dd_Mo_lock_34 : decode bb_Mo_lock 34 = .ok (.iload_n 1, 1) := by decide +kernel
theorem dd_Mo_lock_35 : decode bb_Mo_lock 35 = .ok (.iconst 4, 1) := by decide +kernel
theorem dd_Mo_lock_36 : decode bb_Mo_lock 36 = .ok (.idiv, 1) := by decide +kernel
theorem dd_Mo_lock_37 : decode bb_Mo_lock 37 = .ok (.baload, 1) := by decide +kernel
theorem dd_Mo_lock_38 : decode bb_Mo_lock 38 = .ok (.ifCond .eq 5, 3) := by decide +kernel
theorem dd_Mo_lock_41 : decode bb_Mo_lock 41 = .ok (.iconst (-1), 1) := by decide +kernel
theorem dd_Mo_lock_42 : decode bb_Mo_lock 42 = .ok (.ireturn, 1) := by decide +kernel
theorem dd_Mo_lock_43 : decode bb_Mo_lock 43 = .ok (.aload_n 0, 1) := by decide +kernel
theorem dd_Mo_lock_44 : decode bb_Mo_lock 44 = .ok (.iload_n 1, 1) := by decide +kernel
theorem dd_Mo_lock_45 : decode bb_Mo_lock 45 = .ok (.invokevirtual 121, 3) := by decide +kernel
theorem dd_Mo_lock_48 : decode bb_Mo_lock 48 = .ok (.istore_n 3, 1) := by decide +kernel
theorem dd_Mo_lock_49 : decode bb_Mo_lock 49 = .ok (.iload_n 2, 1) := by decide +kernel
theorem dd_Mo_lock_50 : decode bb_Mo_lock 50 = .ok (.iconst 3, 1) := by decide +kernel
theorem dd_Mo_lock_51 : decode bb_Mo_lock 51 = .ok (.if_icmp .ge 37, 3) := by decide +kernel
theorem dd_Mo_lock_54 : decode bb_Mo_lock 54 = .ok (.iload_n 2, 1) := by decide +kernel
theorem dd_Mo_lock_55 : decode bb_Mo_lock 55 = .ok (.ifCond .ne 12, 3) := by decide +kernel
theorem dd_Mo_lock_58 : decode bb_Mo_lock 58 = .ok (.aload_n 0, 1) := by decide +kernel
theorem dd_Mo_lock_59 : decode bb_Mo_lock 59 = .ok (.getfield 13, 3) := by decide +kernel
theorem dd_Mo_lock_62 : decode bb_Mo_lock 62 = .ok (.iload_n 1, 1) := by decide +kernel
theorem dd_Mo_lock_63 : decode bb_Mo_lock 63 = .ok (.iaload, 1) := by decide +kernel
theorem dd_Mo_lock_64 : decode bb_Mo_lock 64 = .ok (.goto 23, 3) := by decide +kernel
theorem dd_Mo_lock_67 : decode bb_Mo_lock 67 = .ok (.iload_n 2, 1) := by decide +kernel
theorem dd_Mo_lock_68 : decode bb_Mo_lock 68 = .ok (.iconst 1, 1) := by decide +kernel
theorem dd_Mo_lock_69 : decode bb_Mo_lock 69 = .ok (.if_icmp .ne 12, 3) := by decide +kernel
theorem dd_Mo_lock_72 : decode bb_Mo_lock 72 = .ok (.aload_n 0, 1) := by decide +kernel
theorem dd_Mo_lock_73 : decode bb_Mo_lock 73 = .ok (.getfield 17, 3) := by decide +kernel
theorem dd_Mo_lock_76 : decode bb_Mo_lock 76 = .ok (.iload_n 1, 1) := by decide +kernel
theorem dd_Mo_lock_77 : decode bb_Mo_lock 77 = .ok (.iaload, 1) := by decide +kernel
theorem dd_Mo_lock_78 : decode bb_Mo_lock 78 = .ok (.goto 9, 3) := by decide +kernel
theorem dd_Mo_lock_81 : decode bb_Mo_lock 81 = .ok (.aload_n 0, 1) := by decide +kernel
theorem dd_Mo_lock_82 : decode bb_Mo_lock 82 = .ok (.getfield 20, 3) := by decide +kernel
theorem dd_Mo_lock_85 : decode bb_Mo_lock 85 = .ok (.iload_n 1, 1) := by decide +kernel
theorem dd_Mo_lock_86 : decode bb_Mo_lock 86 = .ok (.iaload, 1) := by decide +kernel
theorem dd_Mo_lock_87 : decode bb_Mo_lock 87 = .ok (.ireturn, 1) := by decide +kernel
theorem dd_Mo_lock_88 : decode bb_Mo_lock 88 = .ok (.iload_n 2, 1) := by decide +kernel
theorem dd_Mo_lock_89 : decode bb_Mo_lock 89 = .ok (.iconst 3, 1) := by decide +kernel
theorem dd_Mo_lock_90 : decode bb_Mo_lock 90 = .ok (.if_icmp .ne 12, 3) := by decide +kernel
theorem dd_Mo_lock_93 : decode bb_Mo_lock 93 = .ok (.aload_n 0, 1) := by decide +kernel
theorem dd_Mo_lock_94 : decode bb_Mo_lock 94 = .ok (.getfield 23, 3) := by decide +kernel
theorem dd_Mo_lock_97 : decode bb_Mo_lock 97 = .ok (.iload_n 1, 1) := by decide +kernel
theorem dd_Mo_lock_98 : decode bb_Mo_lock 98 = .ok (.iaload, 1) := by decide +kernel
theorem dd_Mo_lock_99 : decode bb_Mo_lock 99 = .ok (.goto 40, 3) := by decide +kernel
theorem dd_Mo_lock_102 : decode bb_Mo_lock 102 = .ok (.iload_n 2, 1) := by decide +kernel
theorem dd_Mo_lock_103 : decode bb_Mo_lock 103 = .ok (.iconst 4, 1) := by decide +kernel
theorem dd_Mo_lock_104 : decode bb_Mo_lock 104 = .ok (.if_icmp .ne 15, 3) := by decide +kernel
theorem dd_Mo_lock_107 : decode bb_Mo_lock 107 = .ok (.iload_n 3, 1) := by decide +kernel
theorem dd_Mo_lock_108 : decode bb_Mo_lock 108 = .ok (.ifCond .eq 7, 3) := by decide +kernel
theorem dd_Mo_lock_111 : decode bb_Mo_lock 111 = .ok (.iconst 1, 1) := by decide +kernel
theorem dd_Mo_lock_112 : decode bb_Mo_lock 112 = .ok (.goto 27, 3) := by decide +kernel
theorem dd_Mo_lock_115 : decode bb_Mo_lock 115 = .ok (.iconst 0, 1) := by decide +kernel
theorem dd_Mo_lock_116 : decode bb_Mo_lock 116 = .ok (.goto 23, 3) := by decide +kernel
theorem dd_Mo_lock_119 : decode bb_Mo_lock 119 = .ok (.aload_n 0, 1) := by decide +kernel
theorem dd_Mo_lock_120 : decode bb_Mo_lock 120 = .ok (.getfield 26, 3) := by decide +kernel
theorem dd_Mo_lock_123 : decode bb_Mo_lock 123 = .ok (.iload_n 1, 1) := by decide +kernel
theorem dd_Mo_lock_124 : decode bb_Mo_lock 124 = .ok (.iaload, 1) := by decide +kernel
theorem dd_Mo_lock_125 : decode bb_Mo_lock 125 = .ok (.iconst 1, 1) := by decide +kernel
theorem dd_Mo_lock_126 : decode bb_Mo_lock 126 = .ok (.if_icmp .ne 12, 3) := by decide +kernel
theorem dd_Mo_lock_129 : decode bb_Mo_lock 129 = .ok (.aload_n 0, 1) := by decide +kernel
theorem dd_Mo_lock_130 : decode bb_Mo_lock 130 = .ok (.getfield 29, 3) := by decide +kernel
theorem dd_Mo_lock_133 : decode bb_Mo_lock 133 = .ok (.iload_n 1, 1) := by decide +kernel
theorem dd_Mo_lock_134 : decode bb_Mo_lock 134 = .ok (.iaload, 1) := by decide +kernel
theorem dd_Mo_lock_135 : decode bb_Mo_lock 135 = .ok (.goto 4, 3) := by decide +kernel
theorem dd_Mo_lock_138 : decode bb_Mo_lock 138 = .ok (.iconst 0, 1) := by decide +kernel
theorem dd_Mo_lock_139 : decode bb_Mo_lock 139 = .ok (.ireturn, 1) := by decide +kernel
theorem dd_Mo_record_0 : decode bb_Mo_record 0 = .ok (.aload_n 0, 1) := by decide +kernel
theorem dd_Mo_record_1 : decode bb_Mo_record 1 = .ok (.iconst 0, 1) := by decide +kernel
theorem dd_Mo_record_2 : decode bb_Mo_record 2 = .ok (.putfield 93, 3) := by decide +kernel
theorem dd_Mo_record_5 : decode bb_Mo_record 5 = .ok (.iload_n 1, 1) := by decide +kernel
theorem dd_Mo_record_6 : decode bb_Mo_record 6 = .ok (.invokestatic 142, 3) := by decide +kernel
theorem dd_Mo_record_9 : decode bb_Mo_record 9 = .ok (.ifCond .eq 27, 3) := by decide +kernel
theorem dd_Mo_record_12 : decode bb_Mo_record 12 = .ok (.iload_n 2, 1) := by decide +kernel
theorem dd_Mo_record_13 : decode bb_Mo_record 13 = .ok (.ifCond .lt 23, 3) := by decide +kernel
theorem dd_Mo_record_16 : decode bb_Mo_record 16 = .ok (.iload_n 3, 1) := by decide +kernel
theorem dd_Mo_record_17 : decode bb_Mo_record 17 = .ok (.iconst 0, 1) := by decide +kernel
theorem dd_Mo_record_18 : decode bb_Mo_record 18 = .ok (.iconst 3, 1) := by decide +kernel
theorem dd_Mo_record_19 : decode bb_Mo_record 19 = .ok (.invokestatic 127, 3) := by decide +kernel
theorem dd_Mo_record_22 : decode bb_Mo_record 22 = .ok (.ifCond .eq 14, 3) := by decide +kernel
theorem dd_Mo_record_25 : decode bb_Mo_record 25 = .ok (.aload_n 0, 1) := by decide +kernel
theorem dd_Mo_record_26 : decode bb_Mo_record 26 = .ok (.getfield 47, 3) := by decide +kernel
theorem dd_Mo_record_29 : decode bb_Mo_record 29 = .ok (.iload_n 1, 1) := by decide +kernel
theorem dd_Mo_record_30 : decode bb_Mo_record 30 = .ok (.iconst 4, 1) := by decide +kernel
theorem dd_Mo_record_31 : decode bb_Mo_record 31 = .ok (.idiv, 1) := by decide +kernel
theorem dd_Mo_record_32 : decode bb_Mo_record 32 = .ok (.baload, 1) := by decide +kernel
theorem dd_Mo_record_33 : decode bb_Mo_record 33 = .ok (.ifCond .eq 5, 3) := by decide +kernel
theorem dd_Mo_record_36 : decode bb_Mo_record 36 = .ok (.iconst (-1), 1) := by decide +kernel
theorem dd_Mo_record_37 : decode bb_Mo_record 37 = .ok (.ireturn, 1) := by decide +kernel
theorem dd_Mo_record_38 : decode bb_Mo_record 38 = .ok (.ldc 184, 2) := by decide +kernel
theorem dd_Mo_record_40 : decode bb_Mo_record 40 = .ok (.istore 4, 2) := by decide +kernel
theorem dd_Mo_record_42 : decode bb_Mo_record 42 = .ok (.iconst (-1), 1) := by decide +kernel
theorem dd_Mo_record_43 : decode bb_Mo_record 43 = .ok (.istore 5, 2) := by decide +kernel
theorem dd_Mo_record_45 : decode bb_Mo_record 45 = .ok (.iconst 0, 1) := by decide +kernel
theorem dd_Mo_record_46 : decode bb_Mo_record 46 = .ok (.istore 6, 2) := by decide +kernel
theorem dd_Mo_record_48 : decode bb_Mo_record 48 = .ok (.iload 6, 2) := by decide +kernel
theorem dd_Mo_record_50 : decode bb_Mo_record 50 = .ok (.iload_n 2, 1) := by decide +kernel
theorem dd_Mo_record_51 : decode bb_Mo_record 51 = .ok (.if_icmp .gt 134, 3) := by decide +kernel
theorem dd_Mo_record_54 : decode bb_Mo_record 54 = .ok (.iload 6, 2) := by decide +kernel
theorem dd_Mo_record_56 : decode bb_Mo_record 56 = .ok (.ifCond .eq 8, 3) := by decide +kernel
theorem dd_Mo_record_59 : decode bb_Mo_record 59 = .ok (.iload 5, 2) := by decide +kernel
theorem dd_Mo_record_61 : decode bb_Mo_record 61 = .ok (.ifCond .lt 124, 3) := by decide +kernel
theorem dd_Mo_record_64 : decode bb_Mo_record 64 = .ok (.iconst (-1), 1) := by decide +kernel
theorem dd_Mo_record_65 : decode bb_Mo_record 65 = .ok (.istore 5, 2) := by decide +kernel
theorem dd_Mo_record_67 : decode bb_Mo_record 67 = .ok (.iconst 0, 1) := by decide +kernel
theorem dd_Mo_record_68 : decode bb_Mo_record 68 = .ok (.istore 7, 2) := by decide +kernel
theorem dd_Mo_record_70 : decode bb_Mo_record 70 = .ok (.iload 7, 2) := by decide +kernel
theorem dd_Mo_record_72 : decode bb_Mo_record 72 = .ok (.aload_n 0, 1) := by decide +kernel
theorem dd_Mo_record_73 : decode bb_Mo_record 73 = .ok (.getfield 99, 3) := by decide +kernel
theorem dd_Mo_record_76 : decode bb_Mo_record 76 = .ok (.if_icmp .ge 85, 3) := by decide +kernel
theorem dd_Mo_record_79 : decode bb_Mo_record 79 = .ok (.aload_n 0, 1) := by decide +kernel
theorem dd_Mo_record_80 : decode bb_Mo_record 80 = .ok (.getfield 32, 3) := by decide +kernel
theorem dd_Mo_record_83 : decode bb_Mo_record 83 = .ok (.iload 7, 2) := by decide +kernel
theorem dd_Mo_record_85 : decode bb_Mo_record 85 = .ok (.iaload, 1) := by decide +kernel
theorem dd_Mo_record_86 : decode bb_Mo_record 86 = .ok (.iload_n 1, 1) := by decide +kernel
theorem dd_Mo_record_87 : decode bb_Mo_record 87 = .ok (.if_icmp .ne 29, 3) := by decide +kernel
theorem dd_Mo_record_90 : decode bb_Mo_record 90 = .ok (.aload_n 0, 1) := by decide +kernel
theorem dd_Mo_record_91 : decode bb_Mo_record 91 = .ok (.getfield 41, 3) := by decide +kernel
theorem dd_Mo_record_94 : decode bb_Mo_record 94 = .ok (.iload 7, 2) := by decide +kernel
theorem dd_Mo_record_96 : decode bb_Mo_record 96 = .ok (.iaload, 1) := by decide +kernel
theorem dd_Mo_record_97 : decode bb_Mo_record 97 = .ok (.ifCond .le 19, 3) := by decide +kernel
theorem dd_Mo_record_100 : decode bb_Mo_record 100 = .ok (.aload_n 0, 1) := by decide +kernel
theorem dd_Mo_record_101 : decode bb_Mo_record 101 = .ok (.getfield 35, 3) := by decide +kernel
theorem dd_Mo_record_104 : decode bb_Mo_record 104 = .ok (.iload 7, 2) := by decide +kernel
theorem dd_Mo_record_106 : decode bb_Mo_record 106 = .ok (.iaload, 1) := by decide +kernel
theorem dd_Mo_record_107 : decode bb_Mo_record 107 = .ok (.iload 4, 2) := by decide +kernel
theorem dd_Mo_record_109 : decode bb_Mo_record 109 = .ok (.if_icmp .ge 7, 3) := by decide +kernel
theorem dd_Mo_record_112 : decode bb_Mo_record 112 = .ok (.iconst 1, 1) := by decide +kernel
theorem dd_Mo_record_113 : decode bb_Mo_record 113 = .ok (.goto 4, 3) := by decide +kernel
theorem dd_Mo_record_116 : decode bb_Mo_record 116 = .ok (.iconst 0, 1) := by decide +kernel
theorem dd_Mo_record_117 : decode bb_Mo_record 117 = .ok (.istore 8, 2) := by decide +kernel
theorem dd_Mo_record_119 : decode bb_Mo_record 119 = .ok (.iload 8, 2) := by decide +kernel
theorem dd_Mo_record_121 : decode bb_Mo_record 121 = .ok (.ifCond .eq 30, 3) := by decide +kernel
theorem dd_Mo_record_124 : decode bb_Mo_record 124 = .ok (.iload 5, 2) := by decide +kernel
theorem dd_Mo_record_126 : decode bb_Mo_record 126 = .ok (.ifCond .lt 20, 3) := by decide +kernel
theorem dd_Mo_record_129 : decode bb_Mo_record 129 = .ok (.aload_n 0, 1) := by decide +kernel
theorem dd_Mo_record_130 : decode bb_Mo_record 130 = .ok (.getfield 35, 3) := by decide +kernel
theorem dd_Mo_record_133 : decode bb_Mo_record 133 = .ok (.iload 7, 2) := by decide +kernel
theorem dd_Mo_record_135 : decode bb_Mo_record 135 = .ok (.iaload, 1) := by decide +kernel
theorem dd_Mo_record_136 : decode bb_Mo_record 136 = .ok (.aload_n 0, 1) := by decide +kernel
theorem dd_Mo_record_137 : decode bb_Mo_record 137 = .ok (.getfield 35, 3) := by decide +kernel
theorem dd_Mo_record_140 : decode bb_Mo_record 140 = .ok (.iload 5, 2) := by decide +kernel
theorem dd_Mo_record_142 : decode bb_Mo_record 142 = .ok (.iaload, 1) := by decide +kernel
theorem dd_Mo_record_143 : decode bb_Mo_record 143 = .ok (.if_icmp .le 8, 3) := by decide +kernel
theorem dd_Mo_record_146 : decode bb_Mo_record 146 = .ok (.iload 7, 2) := by decide +kernel
theorem dd_Mo_record_148 : decode bb_Mo_record 148 = .ok (.goto 5, 3) := by decide +kernel
theorem dd_Mo_record_151 : decode bb_Mo_record 151 = .ok (.iload 5, 2) := by decide +kernel
theorem dd_Mo_record_153 : decode bb_Mo_record 153 = .ok (.istore 5, 2) := by decide +kernel
theorem dd_Mo_record_155 : decode bb_Mo_record 155 = .ok (.iinc 7 1, 3) := by decide +kernel
theorem dd_Mo_record_158 : decode bb_Mo_record 158 = .ok (.goto (-88), 3) := by decide +kernel
theorem dd_Mo_record_161 : decode bb_Mo_record 161 = .ok (.iload 5, 2) := by decide +kernel
theorem dd_Mo_record_163 : decode bb_Mo_record 163 = .ok (.ifCond .ge 7, 3) := by decide +kernel
theorem dd_Mo_record_166 : decode bb_Mo_record 166 = .ok (.iconst 0, 1) := by decide +kernel
theorem dd_Mo_record_167 : decode bb_Mo_record 167 = .ok (.goto 10, 3) := by decide +kernel
theorem dd_Mo_record_170 : decode bb_Mo_record 170 = .ok (.aload_n 0, 1) := by decide +kernel
theorem dd_Mo_record_171 : decode bb_Mo_record 171 = .ok (.getfield 35, 3) := by decide +kernel
theorem dd_Mo_record_174 : decode bb_Mo_record 174 = .ok (.iload 5, 2) := by decide +kernel
theorem dd_Mo_record_176 : decode bb_Mo_record 176 = .ok (.iaload, 1) := by decide +kernel
theorem dd_Mo_record_177 : decode bb_Mo_record 177 = .ok (.istore 4, 2) := by decide +kernel
theorem dd_Mo_record_179 : decode bb_Mo_record 179 = .ok (.iinc 6 1, 3) := by decide +kernel
theorem dd_Mo_record_182 : decode bb_Mo_record 182 = .ok (.goto (-134), 3) := by decide +kernel
theorem dd_Mo_record_185 : decode bb_Mo_record 185 = .ok (.iload 5, 2) := by decide +kernel
theorem dd_Mo_record_187 : decode bb_Mo_record 187 = .ok (.ifCond .ge 5, 3) := by decide +kernel
theorem dd_Mo_record_190 : decode bb_Mo_record 190 = .ok (.iconst (-1), 1) := by decide +kernel
theorem dd_Mo_record_191 : decode bb_Mo_record 191 = .ok (.ireturn, 1) := by decide +kernel
theorem dd_Mo_record_192 : decode bb_Mo_record 192 = .ok (.iload_n 3, 1) := by decide +kernel
theorem dd_Mo_record_193 : decode bb_Mo_record 193 = .ok (.ifCond .ne 13, 3) := by decide +kernel
theorem dd_Mo_record_196 : decode bb_Mo_record 196 = .ok (.aload_n 0, 1) := by decide +kernel
theorem dd_Mo_record_197 : decode bb_Mo_record 197 = .ok (.getfield 35, 3) := by decide +kernel
theorem dd_Mo_record_200 : decode bb_Mo_record 200 = .ok (.iload 5, 2) := by decide +kernel
theorem dd_Mo_record_202 : decode bb_Mo_record 202 = .ok (.iaload, 1) := by decide +kernel
theorem dd_Mo_record_203 : decode bb_Mo_record 203 = .ok (.goto 55, 3) := by decide +kernel
theorem dd_Mo_record_206 : decode bb_Mo_record 206 = .ok (.iload_n 3, 1) := by decide +kernel
theorem dd_Mo_record_207 : decode bb_Mo_record 207 = .ok (.iconst 1, 1) := by decide +kernel
theorem dd_Mo_record_208 : decode bb_Mo_record 208 = .ok (.if_icmp .ne 13, 3) := by decide +kernel
theorem dd_Mo_record_211 : decode bb_Mo_record 211 = .ok (.aload_n 0, 1) := by decide +kernel
theorem dd_Mo_record_212 : decode bb_Mo_record 212 = .ok (.getfield 38, 3) := by decide +kernel
theorem dd_Mo_record_215 : decode bb_Mo_record 215 = .ok (.iload 5, 2) := by decide +kernel
theorem dd_Mo_record_217 : decode bb_Mo_record 217 = .ok (.iaload, 1) := by decide +kernel
theorem dd_Mo_record_218 : decode bb_Mo_record 218 = .ok (.goto 40, 3) := by decide +kernel
theorem dd_Mo_record_221 : decode bb_Mo_record 221 = .ok (.iload_n 3, 1) := by decide +kernel
theorem dd_Mo_record_222 : decode bb_Mo_record 222 = .ok (.iconst 2, 1) := by decide +kernel
theorem dd_Mo_record_223 : decode bb_Mo_record 223 = .ok (.if_icmp .ne 13, 3) := by decide +kernel
theorem dd_Mo_record_226 : decode bb_Mo_record 226 = .ok (.aload_n 0, 1) := by decide +kernel
theorem dd_Mo_record_227 : decode bb_Mo_record 227 = .ok (.getfield 41, 3) := by decide +kernel
theorem dd_Mo_record_230 : decode bb_Mo_record 230 = .ok (.iload 5, 2) := by decide +kernel
theorem dd_Mo_record_232 : decode bb_Mo_record 232 = .ok (.iaload, 1) := by decide +kernel
theorem dd_Mo_record_233 : decode bb_Mo_record 233 = .ok (.goto 25, 3) := by decide +kernel
theorem dd_Mo_record_236 : decode bb_Mo_record 236 = .ok (.aload_n 0, 1) := by decide +kernel
theorem dd_Mo_record_237 : decode bb_Mo_record 237 = .ok (.getfield 41, 3) := by decide +kernel
theorem dd_Mo_record_240 : decode bb_Mo_record 240 = .ok (.iload 5, 2) := by decide +kernel
theorem dd_Mo_record_242 : decode bb_Mo_record 242 = .ok (.iaload, 1) := by decide +kernel
theorem dd_Mo_record_243 : decode bb_Mo_record 243 = .ok (.iconst 1, 1) := by decide +kernel
theorem dd_Mo_record_244 : decode bb_Mo_record 244 = .ok (.if_icmp .ne 13, 3) := by decide +kernel
theorem dd_Mo_record_247 : decode bb_Mo_record 247 = .ok (.aload_n 0, 1) := by decide +kernel
theorem dd_Mo_record_248 : decode bb_Mo_record 248 = .ok (.getfield 44, 3) := by decide +kernel
theorem dd_Mo_record_251 : decode bb_Mo_record 251 = .ok (.iload 5, 2) := by decide +kernel
theorem dd_Mo_record_253 : decode bb_Mo_record 253 = .ok (.iaload, 1) := by decide +kernel
theorem dd_Mo_record_254 : decode bb_Mo_record 254 = .ok (.goto 4, 3) := by decide +kernel
theorem dd_Mo_record_257 : decode bb_Mo_record 257 = .ok (.iconst 0, 1) := by decide +kernel
theorem dd_Mo_record_258 : decode bb_Mo_record 258 = .ok (.ireturn, 1) := by decide +kernel
theorem dd_Mo_tablet_0 : decode bb_Mo_tablet 0 = .ok (.aload_n 0, 1) := by decide +kernel
theorem dd_Mo_tablet_1 : decode bb_Mo_tablet 1 = .ok (.iconst 0, 1) := by decide +kernel
theorem dd_Mo_tablet_2 : decode bb_Mo_tablet 2 = .ok (.putfield 93, 3) := by decide +kernel
theorem dd_Mo_tablet_5 : decode bb_Mo_tablet 5 = .ok (.iload_n 1, 1) := by decide +kernel
theorem dd_Mo_tablet_6 : decode bb_Mo_tablet 6 = .ok (.iconst 0, 1) := by decide +kernel
theorem dd_Mo_tablet_7 : decode bb_Mo_tablet 7 = .ok (.iconst 2, 1) := by decide +kernel
theorem dd_Mo_tablet_8 : decode bb_Mo_tablet 8 = .ok (.invokestatic 127, 3) := by decide +kernel
theorem dd_Mo_tablet_11 : decode bb_Mo_tablet 11 = .ok (.ifCond .eq 12, 3) := by decide +kernel
theorem dd_Mo_tablet_14 : decode bb_Mo_tablet 14 = .ok (.iload_n 2, 1) := by decide +kernel
theorem dd_Mo_tablet_15 : decode bb_Mo_tablet 15 = .ok (.iconst 0, 1) := by decide +kernel
theorem dd_Mo_tablet_16 : decode bb_Mo_tablet 16 = .ok (.iconst 2, 1) := by decide +kernel
theorem dd_Mo_tablet_17 : decode bb_Mo_tablet 17 = .ok (.invokestatic 127, 3) := by decide +kernel
theorem dd_Mo_tablet_20 : decode bb_Mo_tablet 20 = .ok (.ifCond .ne 5, 3) := by decide +kernel
theorem dd_Mo_tablet_23 : decode bb_Mo_tablet 23 = .ok (.iconst (-1), 1) := by decide +kernel
theorem dd_Mo_tablet_24 : decode bb_Mo_tablet 24 = .ok (.ireturn, 1) := by decide +kernel
theorem dd_Mo_tablet_25 : decode bb_Mo_tablet 25 = .ok (.iload_n 2, 1) := by decide +kernel
theorem dd_Mo_tablet_26 : decode bb_Mo_tablet 26 = .ok (.ifCond .ne 12, 3) := by decide +kernel
theorem dd_Mo_tablet_29 : decode bb_Mo_tablet 29 = .ok (.aload_n 0, 1) := by decide +kernel
theorem dd_Mo_tablet_30 : decode bb_Mo_tablet 30 = .ok (.getfield 54, 3) := by decide +kernel
theorem dd_Mo_tablet_33 : decode bb_Mo_tablet 33 = .ok (.iload_n 1, 1) := by decide +kernel
theorem dd_Mo_tablet_34 : decode bb_Mo_tablet 34 = .ok (.iaload, 1) := by decide +kernel
theorem dd_Mo_tablet_35 : decode bb_Mo_tablet 35 = .ok (.goto 36, 3) := by decide +kernel
theorem dd_Mo_tablet_38 : decode bb_Mo_tablet 38 = .ok (.iload_n 2, 1) := by decide +kernel
theorem dd_Mo_tablet_39 : decode bb_Mo_tablet 39 = .ok (.iconst 2, 1) := by decide +kernel
theorem dd_Mo_tablet_40 : decode bb_Mo_tablet 40 = .ok (.if_icmp .ne 12, 3) := by decide +kernel
theorem dd_Mo_tablet_43 : decode bb_Mo_tablet 43 = .ok (.aload_n 0, 1) := by decide +kernel
theorem dd_Mo_tablet_44 : decode bb_Mo_tablet 44 = .ok (.getfield 57, 3) := by decide +kernel
theorem dd_Mo_tablet_47 : decode bb_Mo_tablet 47 = .ok (.iload_n 1, 1) := by decide +kernel
theorem dd_Mo_tablet_48 : decode bb_Mo_tablet 48 = .ok (.iaload, 1) := by decide +kernel
theorem dd_Mo_tablet_49 : decode bb_Mo_tablet 49 = .ok (.goto 22, 3) := by decide +kernel
theorem dd_Mo_tablet_52 : decode bb_Mo_tablet 52 = .ok (.aload_n 0, 1) := by decide +kernel
theorem dd_Mo_tablet_53 : decode bb_Mo_tablet 53 = .ok (.getfield 47, 3) := by decide +kernel
theorem dd_Mo_tablet_56 : decode bb_Mo_tablet 56 = .ok (.iload_n 1, 1) := by decide +kernel
theorem dd_Mo_tablet_57 : decode bb_Mo_tablet 57 = .ok (.baload, 1) := by decide +kernel
theorem dd_Mo_tablet_58 : decode bb_Mo_tablet 58 = .ok (.ifCond .eq 7, 3) := by decide +kernel
theorem dd_Mo_tablet_61 : decode bb_Mo_tablet 61 = .ok (.iconst (-1), 1) := by decide +kernel
theorem dd_Mo_tablet_62 : decode bb_Mo_tablet 62 = .ok (.goto 9, 3) := by decide +kernel
theorem dd_Mo_tablet_65 : decode bb_Mo_tablet 65 = .ok (.aload_n 0, 1) := by decide +kernel
theorem dd_Mo_tablet_66 : decode bb_Mo_tablet 66 = .ok (.getfield 51, 3) := by decide +kernel
theorem dd_Mo_tablet_69 : decode bb_Mo_tablet 69 = .ok (.iload_n 1, 1) := by decide +kernel
theorem dd_Mo_tablet_70 : decode bb_Mo_tablet 70 = .ok (.iaload, 1) := by decide +kernel
theorem dd_Mo_tablet_71 : decode bb_Mo_tablet 71 = .ok (.ireturn, 1) := by decide +kernel
theorem dd_Mo_oracle_0 : decode bb_Mo_oracle 0 = .ok (.aload_n 0, 1) := by decide +kernel
theorem dd_Mo_oracle_1 : decode bb_Mo_oracle 1 = .ok (.iconst 0, 1) := by decide +kernel
theorem dd_Mo_oracle_2 : decode bb_Mo_oracle 2 = .ok (.putfield 93, 3) := by decide +kernel
theorem dd_Mo_oracle_5 : decode bb_Mo_oracle 5 = .ok (.iload_n 1, 1) := by decide +kernel
theorem dd_Mo_oracle_6 : decode bb_Mo_oracle 6 = .ok (.ifCond .ne 10, 3) := by decide +kernel
theorem dd_Mo_oracle_9 : decode bb_Mo_oracle 9 = .ok (.aload_n 0, 1) := by decide +kernel
theorem dd_Mo_oracle_10 : decode bb_Mo_oracle 10 = .ok (.getfield 7, 3) := by decide +kernel
theorem dd_Mo_oracle_13 : decode bb_Mo_oracle 13 = .ok (.goto 28, 3) := by decide +kernel
theorem dd_Mo_oracle_16 : decode bb_Mo_oracle 16 = .ok (.iload_n 1, 1) := by decide +kernel
theorem dd_Mo_oracle_17 : decode bb_Mo_oracle 17 = .ok (.iconst 1, 1) := by decide +kernel
theorem dd_Mo_oracle_18 : decode bb_Mo_oracle 18 = .ok (.if_icmp .ne 10, 3) := by decide +kernel
theorem dd_Mo_oracle_21 : decode bb_Mo_oracle 21 = .ok (.aload_n 0, 1) := by decide +kernel
theorem dd_Mo_oracle_22 : decode bb_Mo_oracle 22 = .ok (.getfield 96, 3) := by decide +kernel
theorem dd_Mo_oracle_25 : decode bb_Mo_oracle 25 = .ok (.goto 16, 3) := by decide +kernel
theorem dd_Mo_oracle_28 : decode bb_Mo_oracle 28 = .ok (.iload_n 1, 1) := by decide +kernel
theorem dd_Mo_oracle_29 : decode bb_Mo_oracle 29 = .ok (.iconst 2, 1) := by decide +kernel
theorem dd_Mo_oracle_30 : decode bb_Mo_oracle 30 = .ok (.if_icmp .ne 10, 3) := by decide +kernel
theorem dd_Mo_oracle_33 : decode bb_Mo_oracle 33 = .ok (.aload_n 0, 1) := by decide +kernel
theorem dd_Mo_oracle_34 : decode bb_Mo_oracle 34 = .ok (.getfield 110, 3) := by decide +kernel
theorem dd_Mo_oracle_37 : decode bb_Mo_oracle 37 = .ok (.goto 4, 3) := by decide +kernel
theorem dd_Mo_oracle_40 : decode bb_Mo_oracle 40 = .ok (.iconst (-1), 1) := by decide +kernel
theorem dd_Mo_oracle_41 : decode bb_Mo_oracle 41 = .ok (.ireturn, 1) := by decide +kernel
end
section
theorem uf_at (F : Nat → Nat → Int32) (n j : Nat) (x : Int32) (n' j' : Nat) : uf_ F n j x n' j' = if n' = n ∧ j' = j then x else F n' j' := rfl
theorem uf_same {F : Nat → Nat → Int32} {n j : Nat} {x : Int32} (h : F n j = x) : uf_ F n j x = F := by
  funext a b
  rw [uf_at]
  by_cases e : a = n ∧ b = j
  · rw [if_pos e, ← h, e.1, e.2]
  · rw [if_neg e]
theorem cs_use {l : Launch} {z : MethodName} {zc : ByteArray} {znL : Nat} {zret : Option FieldType} {d mc ms : Nat} {g : Nat → Nat} {vs : List Value} {S : ss_} {M : mm_M} {P : Option Value → mm_M → Prop} (h : cs_ l z zc znL zret d mc ms g vs S (fun v S' => ∀ M', rp_ g M' S' → P v M')) (hS : rp_ g M S) : ct_ l z zc znL zret d mc ms vs M P :=
  ct_mono (fun v M' hq => by
    obtain ⟨S', h1, h2⟩ := hq
    exact h2 M' h1) (h M hS)
set_option maxRecDepth 20000 in
theorem ct_Mo_in {l : Launch} {M : mm_M} {Q : Option Value → mm_M → Prop} {x lo hi : Int32} (hQ0 : x < lo ∨ hi < x → Q (some (.int 0)) M) (hQ : ¬ x < lo → ¬ hi < x → Q (some (.int 1)) M) : ct_ l yy_Mo_in bb_Mo_in 3 (some .boolean) 0 0 0 [.int x, .int lo, .int hi] M Q := by
  refine ct_of (by decide) (Nat.le_of_ble_eq_true rfl) (fun G A => ?_)
  refine jj_iload_n 0 dd_Mo_in_0 rfl ?_
  refine jj_iload_n 1 dd_Mo_in_1 rfl ?_
  refine jj_icmp_lt (tgt := 14) dd_Mo_in_2 (by decide) (fun h2 => ?_) (fun h2 => ?_)
  · skip
    refine jj_iconst (v := 0) dd_Mo_in_14 rfl ?_
    refine jj_iret dd_Mo_in_15 rfl rfl ?_
    exact hQ0 (Or.inl h2)
  · skip
    refine jj_iload_n 0 dd_Mo_in_5 rfl ?_
    refine jj_iload_n 2 dd_Mo_in_6 rfl ?_
    refine jj_icmp_gt (tgt := 14) dd_Mo_in_7 (by decide) (fun h7 => ?_) (fun h7 => ?_)
    · skip
      refine jj_iconst (v := 0) dd_Mo_in_14 rfl ?_
      refine jj_iret dd_Mo_in_15 rfl rfl ?_
      exact hQ0 (Or.inr h7)
    · skip
      refine jj_iconst (v := 1) dd_Mo_in_10 rfl ?_
      refine jj_goto (tgt := 15) dd_Mo_in_11 (by decide) ?_
      refine jj_iret dd_Mo_in_15 rfl rfl ?_
      exact hQ h2 h7
set_option maxRecDepth 20000 in
theorem ct_Mo_isClient {l : Launch} {M : mm_M} {Q : Option Value → mm_M → Prop} {a : Nat} {x : Int32} (hQ0 : x < 0 ∨ 3 < x → Q (some (.int 0)) M) (hQ : ¬ x < 0 → ¬ 3 < x → Q (some (.int 1)) M) : ct_ l yy_Mo_isClient bb_Mo_isClient 2 (some .boolean) 1 0 0 [.ref a, .int x] M Q := by
  refine ct_of (by decide) (Nat.le_of_ble_eq_true rfl) (fun G A => ?_)
  refine jj_iload_n 1 dd_Mo_isClient_0 rfl ?_
  refine jj_iconst (v := 0) dd_Mo_isClient_1 rfl ?_
  refine jj_iconst (v := 3) dd_Mo_isClient_2 rfl ?_
  refine jj_callS [_, _, _] [] 0 0 dd_Mo_isClient_3 cs_Mo_127 ci_Mo_127 rfl (Nat.le_of_ble_eq_true rfl) ⟨(Nat.le_of_ble_eq_true rfl), (Nat.le_of_ble_eq_true rfl)⟩ ⟨(Nat.le_of_ble_eq_true rfl), (Nat.le_of_ble_eq_true rfl)⟩ rfl (ct_Mo_in (fun hb => ?_) (fun hb hb2 => ?_))
  · skip
    refine jj_iret dd_Mo_isClient_6 rfl rfl ?_
    exact hQ0 hb
  · skip
    refine jj_iret dd_Mo_isClient_6 rfl rfl ?_
    exact hQ hb hb2
set_option maxRecDepth 20000 in
theorem ct_Mo_isCell {l : Launch} {M : mm_M} {Q : Option Value → mm_M → Prop} {x : Int32} (hQ0 : x < 0 ∨ 11 < x → Q (some (.int 0)) M) (hQ : ¬ x < 0 → ¬ 11 < x → Q (some (.int 1)) M) : ct_ l yy_Mo_isCell bb_Mo_isCell 1 (some .boolean) 1 0 0 [.int x] M Q := by
  refine ct_of (by decide) (Nat.le_of_ble_eq_true rfl) (fun G A => ?_)
  refine jj_iload_n 0 dd_Mo_isCell_0 rfl ?_
  refine jj_iconst (v := 0) dd_Mo_isCell_1 rfl ?_
  refine jj_bipush (v := 11) dd_Mo_isCell_2 rfl ?_
  refine jj_callS [_, _, _] [] 0 0 dd_Mo_isCell_4 cs_Mo_127 ci_Mo_127 rfl (Nat.le_of_ble_eq_true rfl) ⟨(Nat.le_of_ble_eq_true rfl), (Nat.le_of_ble_eq_true rfl)⟩ ⟨(Nat.le_of_ble_eq_true rfl), (Nat.le_of_ble_eq_true rfl)⟩ rfl (ct_Mo_in (fun hb => ?_) (fun hb hb2 => ?_))
  · skip
    refine jj_iret dd_Mo_isCell_7 rfl rfl ?_
    exact hQ0 hb
  · skip
    refine jj_iret dd_Mo_isCell_7 rfl rfl ?_
    exact hQ hb hb2
set_option maxRecDepth 20000 in
theorem cs_Mo_thrown {l : Launch} {g : Nat → Nat} {S : ss_} {Q : Option Value → ss_ → Prop}  (hQ : Q (some (.int (S.1 60 1))) S) : cs_ l yy_Mo_thrown bb_Mo_thrown 1 (some .int) 0 0 0 g [.ref (g 60)] S Q := by
  intro M hS
  refine ct_of (by decide) (Nat.le_of_ble_eq_true rfl) (fun G A => ?_)
  refine jj_aload_n 0 dd_Mo_thrown_0 rfl ?_
  refine jj_gS hS dd_Mo_thrown_1 ff_Mo_93 rfl (fun _ => rfl) ?_
  refine jj_iret dd_Mo_thrown_4 rfl rfl ?_
  exact ⟨_, hS, hQ⟩
set_option maxRecDepth 20000 in
theorem cs_Mo_fails {l : Launch} {g : Nat → Nat} {S : ss_} {Q : Option Value → ss_ → Prop} {x : Int32} (hQ : Q (some (.int 0)) (uf_ S.1 60 1 x, S.2)) : cs_ l yy_Mo_fails bb_Mo_fails 2 (some .int) 0 0 0 g [.ref (g 60), .int x] S Q := by
  intro M hS
  refine ct_of (by decide) (Nat.le_of_ble_eq_true rfl) (fun G A => ?_)
  refine jj_aload_n 0 dd_Mo_fails_0 rfl ?_
  refine jj_iload_n 1 dd_Mo_fails_1 rfl ?_
  refine jj_pS hS dd_Mo_fails_2 ⟨ff_Mo_93, rfl⟩ rfl (fun _ => rfl) ⟨rfl, rfl⟩ (fun M hS => ?_)
  refine jj_iconst (v := 0) dd_Mo_fails_5 rfl ?_
  refine jj_iret dd_Mo_fails_6 rfl rfl ?_
  exact ⟨_, hS, hQ⟩
def ho_F (F : Nat → Nat → Int32) : Nat → Nat → Int32 := uf_ (uf_ F 60 4 (if F 60 3 ≤ F 60 4 then F 60 4 else F 60 3 + 7)) 60 3 (F 60 3 + 1)
set_option maxRecDepth 20000 in
theorem cs_Mo_handOut {l : Launch} {g : Nat → Nat} {S : ss_} {Q : Option Value → ss_ → Prop}  (hQ : Q (some (.int (S.1 60 3 + 1 - 1))) (ho_F S.1, S.2)) : cs_ l yy_Mo_handOut bb_Mo_handOut 1 (some .int) 0 0 0 g [.ref (g 60)] S Q := by
  intro M hS
  refine ct_of (by decide) (Nat.le_of_ble_eq_true rfl) (fun G A => ?_)
  refine jj_aload_n 0 dd_Mo_handOut_0 rfl ?_
  refine jj_aload_n 0 dd_Mo_handOut_1 rfl ?_
  refine jj_gS hS dd_Mo_handOut_2 ff_Mo_7 rfl (fun _ => rfl) ?_
  refine jj_aload_n 0 dd_Mo_handOut_5 rfl ?_
  refine jj_gS hS dd_Mo_handOut_6 ff_Mo_96 rfl (fun _ => rfl) ?_
  refine jj_icmp_le (tgt := 22) dd_Mo_handOut_9 (by decide) (fun h9 => ?_) (fun h9 => ?_)
  · skip
    refine jj_aload_n 0 dd_Mo_handOut_22 rfl ?_
    refine jj_gS hS dd_Mo_handOut_23 ff_Mo_96 rfl (fun _ => rfl) ?_
    refine jj_pS hS dd_Mo_handOut_26 ⟨ff_Mo_96, rfl⟩ rfl (fun _ => rfl) ⟨rfl, rfl⟩ (fun M hS => ?_)
    refine jj_aload_n 0 dd_Mo_handOut_29 rfl ?_
    refine jj_dup dd_Mo_handOut_30 rfl ?_
    refine jj_gS hS dd_Mo_handOut_31 ff_Mo_7 rfl (fun _ => rfl) ?_
    refine jj_iconst (v := 1) dd_Mo_handOut_34 rfl ?_
    refine jj_iadd dd_Mo_handOut_35 ?_
    refine jj_pS hS dd_Mo_handOut_36 ⟨ff_Mo_7, rfl⟩ rfl (fun _ => rfl) ⟨rfl, rfl⟩ (fun M hS => ?_)
    refine jj_aload_n 0 dd_Mo_handOut_39 rfl ?_
    refine jj_gS hS dd_Mo_handOut_40 ff_Mo_7 rfl (fun _ => rfl) ?_
    refine jj_iconst (v := 1) dd_Mo_handOut_43 rfl ?_
    refine jj_isub dd_Mo_handOut_44 ?_
    refine jj_iret dd_Mo_handOut_45 rfl rfl ?_
    refine ⟨_, hS, ?_⟩
    try simp [uf_at, -Int32.not_lt, -Int32.not_le] at h9
    simpa [uf_at, uf_same, ho_F, -Int32.not_lt, -Int32.not_le, h9] using hQ
  · skip
    refine jj_aload_n 0 dd_Mo_handOut_12 rfl ?_
    refine jj_gS hS dd_Mo_handOut_13 ff_Mo_7 rfl (fun _ => rfl) ?_
    refine jj_bipush (v := 7) dd_Mo_handOut_16 rfl ?_
    refine jj_iadd dd_Mo_handOut_18 ?_
    refine jj_goto (tgt := 26) dd_Mo_handOut_19 (by decide) ?_
    refine jj_pS hS dd_Mo_handOut_26 ⟨ff_Mo_96, rfl⟩ rfl (fun _ => rfl) ⟨rfl, rfl⟩ (fun M hS => ?_)
    refine jj_aload_n 0 dd_Mo_handOut_29 rfl ?_
    refine jj_dup dd_Mo_handOut_30 rfl ?_
    refine jj_gS hS dd_Mo_handOut_31 ff_Mo_7 rfl (fun _ => rfl) ?_
    refine jj_iconst (v := 1) dd_Mo_handOut_34 rfl ?_
    refine jj_iadd dd_Mo_handOut_35 ?_
    refine jj_pS hS dd_Mo_handOut_36 ⟨ff_Mo_7, rfl⟩ rfl (fun _ => rfl) ⟨rfl, rfl⟩ (fun M hS => ?_)
    refine jj_aload_n 0 dd_Mo_handOut_39 rfl ?_
    refine jj_gS hS dd_Mo_handOut_40 ff_Mo_7 rfl (fun _ => rfl) ?_
    refine jj_iconst (v := 1) dd_Mo_handOut_43 rfl ?_
    refine jj_isub dd_Mo_handOut_44 ?_
    refine jj_iret dd_Mo_handOut_45 rfl rfl ?_
    refine ⟨_, hS, ?_⟩
    try simp [uf_at, -Int32.not_lt, -Int32.not_le] at h9
    simpa [uf_at, uf_same, ho_F, -Int32.not_lt, -Int32.not_le, h9] using hQ
set_option maxRecDepth 20000 in
theorem cs_Mo_ends {l : Launch} {g : Nat → Nat} {S : ss_} {Q : Option Value → ss_ → Prop} {c : Nat} {x : Int32} (hc : c < 4) (hQ : Q (some (.int x)) (uf_ S.1 83 c 0, S.2)) : cs_ l yy_Mo_ends bb_Mo_ends 3 (some .int) 0 0 0 g [.ref (g 60), .int (nI c), .int x] S Q := by
  intro M hS
  refine ct_of (by decide) (Nat.le_of_ble_eq_true rfl) (fun G A => ?_)
  refine jj_aload_n 0 dd_Mo_ends_0 rfl ?_
  refine jj_rS (n := 83) hS dd_Mo_ends_1 ff_Mo_66 rfl (fun _ => rfl) rfl ?_
  refine jj_iload_n 1 dd_Mo_ends_4 rfl ?_
  refine jj_iconst (v := 0) dd_Mo_ends_5 rfl ?_
  refine jj_asS hS dd_Mo_ends_6 rfl (vp_in_nI (n := c) (by omega) (by decide)) (c) (nI_clamp (n := c) (by omega)) (fun M hS => ?_)
  refine jj_iload_n 2 dd_Mo_ends_7 rfl ?_
  refine jj_iret dd_Mo_ends_8 rfl rfl ?_
  exact ⟨_, hS, hQ⟩
def en_f (F : Nat → Nat → Int32) (t : Nat) : Int32 := if F 81 t ≤ 0 then -1 else F 81 t - 1
def en_l (F : Nat → Nat → Int32) (t : Nat) : Int32 := if F 79 t = 8 then 0 else F 79 t
def en_g (F : Nat → Nat → Int32) (t : Nat) : Int32 := if en_f F t = 0 ∧ F 82 t = 0 then 0 else 1
def en_F (F : Nat → Nat → Int32) (t : Nat) : Nat → Nat → Int32 := uf_ (uf_ (uf_ (uf_ (uf_ F 79 t (en_l F t)) 80 t (F 80 t + 1)) 81 t (en_f F t)) 77 t (if F 77 t = 0 ∧ ¬ en_f F t = 0 then 0 else 1)) 79 t (en_l F t + en_g F t)
set_option maxRecDepth 20000 in
theorem cs_Mo_entry {l : Launch} {g : Nat → Nat} {S : ss_} {Q : Option Value → ss_ → Prop} {t : Nat} (ht : t < 3) (hQ : Q (some (.int (en_g S.1 t))) (en_F S.1 t, S.2)) : cs_ l yy_Mo_entry bb_Mo_entry 4 (some .boolean) 0 0 0 g [.ref (g 60), .int (nI t)] S Q := by
  intro M hS
  refine ct_of (by decide) (Nat.le_of_ble_eq_true rfl) (fun G A => ?_)
  refine jj_aload_n 0 dd_Mo_entry_0 rfl ?_
  refine jj_rS (n := 79) hS dd_Mo_entry_1 ff_Mo_54 rfl (fun _ => rfl) rfl ?_
  refine jj_iload_n 1 dd_Mo_entry_4 rfl ?_
  refine jj_aS hS dd_Mo_entry_5 rfl (vp_in_nI (n := t) (by omega) (by decide)) (t) (nI_clamp (n := t) (by omega)) ?_
  refine jj_bipush (v := 8) dd_Mo_entry_6 rfl ?_
  refine jj_icmp_ne (tgt := 18) dd_Mo_entry_8 (by decide) (fun h8 => ?_) (fun h8 => ?_)
  · skip
    refine jj_aload_n 0 dd_Mo_entry_18 rfl ?_
    refine jj_rS (n := 80) hS dd_Mo_entry_19 ff_Mo_57 rfl (fun _ => rfl) rfl ?_
    refine jj_iload_n 1 dd_Mo_entry_22 rfl ?_
    refine jj_dup2 dd_Mo_entry_23 rfl rfl ?_
    refine jj_aS hS dd_Mo_entry_24 rfl (vp_in_nI (n := t) (by omega) (by decide)) (t) (nI_clamp (n := t) (by omega)) ?_
    refine jj_iconst (v := 1) dd_Mo_entry_25 rfl ?_
    refine jj_iadd dd_Mo_entry_26 ?_
    refine jj_asS hS dd_Mo_entry_27 rfl (vp_in_nI (n := t) (by omega) (by decide)) (t) (nI_clamp (n := t) (by omega)) (fun M hS => ?_)
    refine jj_aload_n 0 dd_Mo_entry_28 rfl ?_
    refine jj_rS (n := 81) hS dd_Mo_entry_29 ff_Mo_60 rfl (fun _ => rfl) rfl ?_
    refine jj_iload_n 1 dd_Mo_entry_32 rfl ?_
    refine jj_aload_n 0 dd_Mo_entry_33 rfl ?_
    refine jj_rS (n := 81) hS dd_Mo_entry_34 ff_Mo_60 rfl (fun _ => rfl) rfl ?_
    refine jj_iload_n 1 dd_Mo_entry_37 rfl ?_
    refine jj_aS hS dd_Mo_entry_38 rfl (vp_in_nI (n := t) (by omega) (by decide)) (t) (nI_clamp (n := t) (by omega)) ?_
    refine jj_if_le (tgt := 53) dd_Mo_entry_39 (by decide) (fun h39 => ?_) (fun h39 => ?_)
    · skip
      refine jj_iconst (v := (-1)) dd_Mo_entry_53 rfl ?_
      refine jj_asS hS dd_Mo_entry_54 rfl (vp_in_nI (n := t) (by omega) (by decide)) (t) (nI_clamp (n := t) (by omega)) (fun M hS => ?_)
      refine jj_aload_n 0 dd_Mo_entry_55 rfl ?_
      refine jj_rS (n := 81) hS dd_Mo_entry_56 ff_Mo_60 rfl (fun _ => rfl) rfl ?_
      refine jj_iload_n 1 dd_Mo_entry_59 rfl ?_
      refine jj_aS hS dd_Mo_entry_60 rfl (vp_in_nI (n := t) (by omega) (by decide)) (t) (nI_clamp (n := t) (by omega)) ?_
      refine jj_if_ne (tgt := 68) dd_Mo_entry_61 (by decide) (fun h61 => ?_) (fun h61 => ?_)
      · skip
        refine jj_iconst (v := 0) dd_Mo_entry_68 rfl ?_
        refine jj_istore_n (lv' := [(2, .int (0)), (0, .ref (g 60)), (1, .int (nI (t)))]) dd_Mo_entry_69 (Nat.le_of_ble_eq_true rfl) rfl ?_
        refine jj_aload_n 1 dd_Mo_entry_70 rfl ?_
        refine jj_rS (n := 77) hS dd_Mo_entry_71 ff_Mo_47 rfl (fun _ => rfl) rfl ?_
        refine jj_iload_n 2 dd_Mo_entry_74 rfl ?_
        refine jj_aload_n 1 dd_Mo_entry_75 rfl ?_
        refine jj_rS (n := 77) hS dd_Mo_entry_76 ff_Mo_47 rfl (fun _ => rfl) rfl ?_
        refine jj_iload_n 2 dd_Mo_entry_79 rfl ?_
        refine jj_zS hS dd_Mo_entry_80 rfl (vp_in_nI (n := t) (by omega) (by decide)) (t) (nI_clamp (n := t) (by omega)) ?_
        refine jj_if_ne (tgt := 88) dd_Mo_entry_81 (by decide) (fun h81 => ?_) (fun h81 => ?_)
        · skip
          refine jj_iconst (v := 1) dd_Mo_entry_88 rfl ?_
          refine jj_goto (tgt := 93) dd_Mo_entry_89 (by decide) ?_
          refine jj_zsS hS dd_Mo_entry_93 rfl (vp_in_nI (n := t) (by omega) (by decide)) rfl (t) (nI_clamp (n := t) (by omega)) (fun M hS => ?_)
          refine jj_iload_n 0 dd_Mo_entry_94 rfl ?_
          refine jj_if_eq (tgt := 107) dd_Mo_entry_95 (by decide) (fun _ => ?_) (fun h => absurd h (by decide))
          refine jj_iconst (v := 1) dd_Mo_entry_107 rfl ?_
          refine jj_goto (tgt := 112) dd_Mo_entry_108 (by decide) ?_
          refine jj_istore_n (lv' := [(3, .int (1)), (2, .int (0)), (0, .ref (g 60)), (1, .int (nI (t)))]) dd_Mo_entry_112 (Nat.le_of_ble_eq_true rfl) rfl ?_
          refine jj_aload_n 2 dd_Mo_entry_113 rfl ?_
          refine jj_rS (n := 79) hS dd_Mo_entry_114 ff_Mo_54 rfl (fun _ => rfl) rfl ?_
          refine jj_iload_n 3 dd_Mo_entry_117 rfl ?_
          refine jj_dup2 dd_Mo_entry_118 rfl rfl ?_
          refine jj_aS hS dd_Mo_entry_119 rfl (vp_in_nI (n := t) (by omega) (by decide)) (t) (nI_clamp (n := t) (by omega)) ?_
          refine jj_iload_n 0 dd_Mo_entry_120 rfl ?_
          refine jj_if_eq (tgt := 128) dd_Mo_entry_121 (by decide) (fun h => absurd h (by decide)) (fun _ => ?_)
          refine jj_iconst (v := 1) dd_Mo_entry_124 rfl ?_
          refine jj_goto (tgt := 129) dd_Mo_entry_125 (by decide) ?_
          refine jj_iadd dd_Mo_entry_129 ?_
          refine jj_asS hS dd_Mo_entry_130 rfl (vp_in_nI (n := t) (by omega) (by decide)) (t) (nI_clamp (n := t) (by omega)) (fun M hS => ?_)
          refine jj_iload_n 0 dd_Mo_entry_131 rfl ?_
          refine jj_iret dd_Mo_entry_132 rfl rfl ?_
          refine ⟨_, hS, ?_⟩
          first | (exfalso; simp [uf_at, -Int32.not_lt, -Int32.not_le] at h8 h39 h61 h81; done) | (simp [uf_at, -Int32.not_lt, -Int32.not_le] at h8 h39 h61 h81; simpa [uf_at, uf_same, en_F, en_g, en_f, en_l, -Int32.not_lt, -Int32.not_le, h8, h39, h61, h81] using hQ) | (simpa [uf_at, uf_same, en_F, en_g, en_f, en_l, -Int32.not_lt, -Int32.not_le, h8, h39, h61, h81] using hQ)
        · skip
          refine jj_iload_n 0 dd_Mo_entry_84 rfl ?_
          refine jj_if_eq (tgt := 92) dd_Mo_entry_85 (by decide) (fun _ => ?_) (fun h => absurd h (by decide))
          refine jj_iconst (v := 0) dd_Mo_entry_92 rfl ?_
          refine jj_zsS hS dd_Mo_entry_93 rfl (vp_in_nI (n := t) (by omega) (by decide)) rfl (t) (nI_clamp (n := t) (by omega)) (fun M hS => ?_)
          refine jj_iload_n 0 dd_Mo_entry_94 rfl ?_
          refine jj_if_eq (tgt := 107) dd_Mo_entry_95 (by decide) (fun _ => ?_) (fun h => absurd h (by decide))
          refine jj_iconst (v := 1) dd_Mo_entry_107 rfl ?_
          refine jj_goto (tgt := 112) dd_Mo_entry_108 (by decide) ?_
          refine jj_istore_n (lv' := [(3, .int (1)), (2, .int (0)), (0, .ref (g 60)), (1, .int (nI (t)))]) dd_Mo_entry_112 (Nat.le_of_ble_eq_true rfl) rfl ?_
          refine jj_aload_n 2 dd_Mo_entry_113 rfl ?_
          refine jj_rS (n := 79) hS dd_Mo_entry_114 ff_Mo_54 rfl (fun _ => rfl) rfl ?_
          refine jj_iload_n 3 dd_Mo_entry_117 rfl ?_
          refine jj_dup2 dd_Mo_entry_118 rfl rfl ?_
          refine jj_aS hS dd_Mo_entry_119 rfl (vp_in_nI (n := t) (by omega) (by decide)) (t) (nI_clamp (n := t) (by omega)) ?_
          refine jj_iload_n 0 dd_Mo_entry_120 rfl ?_
          refine jj_if_eq (tgt := 128) dd_Mo_entry_121 (by decide) (fun h => absurd h (by decide)) (fun _ => ?_)
          refine jj_iconst (v := 1) dd_Mo_entry_124 rfl ?_
          refine jj_goto (tgt := 129) dd_Mo_entry_125 (by decide) ?_
          refine jj_iadd dd_Mo_entry_129 ?_
          refine jj_asS hS dd_Mo_entry_130 rfl (vp_in_nI (n := t) (by omega) (by decide)) (t) (nI_clamp (n := t) (by omega)) (fun M hS => ?_)
          refine jj_iload_n 0 dd_Mo_entry_131 rfl ?_
          refine jj_iret dd_Mo_entry_132 rfl rfl ?_
          refine ⟨_, hS, ?_⟩
          first | (exfalso; simp [uf_at, -Int32.not_lt, -Int32.not_le] at h8 h39 h61 h81; done) | (simp [uf_at, -Int32.not_lt, -Int32.not_le] at h8 h39 h61 h81; simpa [uf_at, uf_same, en_F, en_g, en_f, en_l, -Int32.not_lt, -Int32.not_le, h8, h39, h61, h81] using hQ) | (simpa [uf_at, uf_same, en_F, en_g, en_f, en_l, -Int32.not_lt, -Int32.not_le, h8, h39, h61, h81] using hQ)
      · skip
        refine jj_iconst (v := 1) dd_Mo_entry_64 rfl ?_
        refine jj_goto (tgt := 69) dd_Mo_entry_65 (by decide) ?_
        refine jj_istore_n (lv' := [(2, .int (1)), (0, .ref (g 60)), (1, .int (nI (t)))]) dd_Mo_entry_69 (Nat.le_of_ble_eq_true rfl) rfl ?_
        refine jj_aload_n 1 dd_Mo_entry_70 rfl ?_
        refine jj_rS (n := 77) hS dd_Mo_entry_71 ff_Mo_47 rfl (fun _ => rfl) rfl ?_
        refine jj_iload_n 2 dd_Mo_entry_74 rfl ?_
        refine jj_aload_n 1 dd_Mo_entry_75 rfl ?_
        refine jj_rS (n := 77) hS dd_Mo_entry_76 ff_Mo_47 rfl (fun _ => rfl) rfl ?_
        refine jj_iload_n 2 dd_Mo_entry_79 rfl ?_
        refine jj_zS hS dd_Mo_entry_80 rfl (vp_in_nI (n := t) (by omega) (by decide)) (t) (nI_clamp (n := t) (by omega)) ?_
        refine jj_if_ne (tgt := 88) dd_Mo_entry_81 (by decide) (fun h81 => ?_) (fun h81 => ?_)
        · skip
          refine jj_iconst (v := 1) dd_Mo_entry_88 rfl ?_
          refine jj_goto (tgt := 93) dd_Mo_entry_89 (by decide) ?_
          refine jj_zsS hS dd_Mo_entry_93 rfl (vp_in_nI (n := t) (by omega) (by decide)) rfl (t) (nI_clamp (n := t) (by omega)) (fun M hS => ?_)
          refine jj_iload_n 0 dd_Mo_entry_94 rfl ?_
          refine jj_if_eq (tgt := 107) dd_Mo_entry_95 (by decide) (fun h => absurd h (by decide)) (fun _ => ?_)
          refine jj_aload_n 1 dd_Mo_entry_98 rfl ?_
          refine jj_rS (n := 82) hS dd_Mo_entry_99 ff_Mo_63 rfl (fun _ => rfl) rfl ?_
          refine jj_iload_n 2 dd_Mo_entry_102 rfl ?_
          refine jj_zS hS dd_Mo_entry_103 rfl (vp_in_nI (n := t) (by omega) (by decide)) (t) (nI_clamp (n := t) (by omega)) ?_
          refine jj_if_eq (tgt := 111) dd_Mo_entry_104 (by decide) (fun h104 => ?_) (fun h104 => ?_)
          · skip
            refine jj_iconst (v := 0) dd_Mo_entry_111 rfl ?_
            refine jj_istore_n (lv' := [(3, .int (0)), (2, .int (1)), (0, .ref (g 60)), (1, .int (nI (t)))]) dd_Mo_entry_112 (Nat.le_of_ble_eq_true rfl) rfl ?_
            refine jj_aload_n 2 dd_Mo_entry_113 rfl ?_
            refine jj_rS (n := 79) hS dd_Mo_entry_114 ff_Mo_54 rfl (fun _ => rfl) rfl ?_
            refine jj_iload_n 3 dd_Mo_entry_117 rfl ?_
            refine jj_dup2 dd_Mo_entry_118 rfl rfl ?_
            refine jj_aS hS dd_Mo_entry_119 rfl (vp_in_nI (n := t) (by omega) (by decide)) (t) (nI_clamp (n := t) (by omega)) ?_
            refine jj_iload_n 0 dd_Mo_entry_120 rfl ?_
            refine jj_if_eq (tgt := 128) dd_Mo_entry_121 (by decide) (fun _ => ?_) (fun h => absurd h (by decide))
            refine jj_iconst (v := 0) dd_Mo_entry_128 rfl ?_
            refine jj_iadd dd_Mo_entry_129 ?_
            refine jj_asS hS dd_Mo_entry_130 rfl (vp_in_nI (n := t) (by omega) (by decide)) (t) (nI_clamp (n := t) (by omega)) (fun M hS => ?_)
            refine jj_iload_n 0 dd_Mo_entry_131 rfl ?_
            refine jj_iret dd_Mo_entry_132 rfl rfl ?_
            refine ⟨_, hS, ?_⟩
            first | (exfalso; simp [uf_at, -Int32.not_lt, -Int32.not_le] at h8 h39 h61 h81 h104; done) | (simp [uf_at, -Int32.not_lt, -Int32.not_le] at h8 h39 h61 h81 h104; simpa [uf_at, uf_same, en_F, en_g, en_f, en_l, -Int32.not_lt, -Int32.not_le, h8, h39, h61, h81, h104] using hQ) | (simpa [uf_at, uf_same, en_F, en_g, en_f, en_l, -Int32.not_lt, -Int32.not_le, h8, h39, h61, h81, h104] using hQ)
          · skip
            refine jj_iconst (v := 1) dd_Mo_entry_107 rfl ?_
            refine jj_goto (tgt := 112) dd_Mo_entry_108 (by decide) ?_
            refine jj_istore_n (lv' := [(3, .int (1)), (2, .int (1)), (0, .ref (g 60)), (1, .int (nI (t)))]) dd_Mo_entry_112 (Nat.le_of_ble_eq_true rfl) rfl ?_
            refine jj_aload_n 2 dd_Mo_entry_113 rfl ?_
            refine jj_rS (n := 79) hS dd_Mo_entry_114 ff_Mo_54 rfl (fun _ => rfl) rfl ?_
            refine jj_iload_n 3 dd_Mo_entry_117 rfl ?_
            refine jj_dup2 dd_Mo_entry_118 rfl rfl ?_
            refine jj_aS hS dd_Mo_entry_119 rfl (vp_in_nI (n := t) (by omega) (by decide)) (t) (nI_clamp (n := t) (by omega)) ?_
            refine jj_iload_n 0 dd_Mo_entry_120 rfl ?_
            refine jj_if_eq (tgt := 128) dd_Mo_entry_121 (by decide) (fun h => absurd h (by decide)) (fun _ => ?_)
            refine jj_iconst (v := 1) dd_Mo_entry_124 rfl ?_
            refine jj_goto (tgt := 129) dd_Mo_entry_125 (by decide) ?_
            refine jj_iadd dd_Mo_entry_129 ?_
            refine jj_asS hS dd_Mo_entry_130 rfl (vp_in_nI (n := t) (by omega) (by decide)) (t) (nI_clamp (n := t) (by omega)) (fun M hS => ?_)
            refine jj_iload_n 0 dd_Mo_entry_131 rfl ?_
            refine jj_iret dd_Mo_entry_132 rfl rfl ?_
            refine ⟨_, hS, ?_⟩
            first | (exfalso; simp [uf_at, -Int32.not_lt, -Int32.not_le] at h8 h39 h61 h81 h104; done) | (simp [uf_at, -Int32.not_lt, -Int32.not_le] at h8 h39 h61 h81 h104; simpa [uf_at, uf_same, en_F, en_g, en_f, en_l, -Int32.not_lt, -Int32.not_le, h8, h39, h61, h81, h104] using hQ) | (simpa [uf_at, uf_same, en_F, en_g, en_f, en_l, -Int32.not_lt, -Int32.not_le, h8, h39, h61, h81, h104] using hQ)
        · skip
          refine jj_iload_n 0 dd_Mo_entry_84 rfl ?_
          refine jj_if_eq (tgt := 92) dd_Mo_entry_85 (by decide) (fun h => absurd h (by decide)) (fun _ => ?_)
          refine jj_iconst (v := 1) dd_Mo_entry_88 rfl ?_
          refine jj_goto (tgt := 93) dd_Mo_entry_89 (by decide) ?_
          refine jj_zsS hS dd_Mo_entry_93 rfl (vp_in_nI (n := t) (by omega) (by decide)) rfl (t) (nI_clamp (n := t) (by omega)) (fun M hS => ?_)
          refine jj_iload_n 0 dd_Mo_entry_94 rfl ?_
          refine jj_if_eq (tgt := 107) dd_Mo_entry_95 (by decide) (fun h => absurd h (by decide)) (fun _ => ?_)
          refine jj_aload_n 1 dd_Mo_entry_98 rfl ?_
          refine jj_rS (n := 82) hS dd_Mo_entry_99 ff_Mo_63 rfl (fun _ => rfl) rfl ?_
          refine jj_iload_n 2 dd_Mo_entry_102 rfl ?_
          refine jj_zS hS dd_Mo_entry_103 rfl (vp_in_nI (n := t) (by omega) (by decide)) (t) (nI_clamp (n := t) (by omega)) ?_
          refine jj_if_eq (tgt := 111) dd_Mo_entry_104 (by decide) (fun h104 => ?_) (fun h104 => ?_)
          · skip
            refine jj_iconst (v := 0) dd_Mo_entry_111 rfl ?_
            refine jj_istore_n (lv' := [(3, .int (0)), (2, .int (1)), (0, .ref (g 60)), (1, .int (nI (t)))]) dd_Mo_entry_112 (Nat.le_of_ble_eq_true rfl) rfl ?_
            refine jj_aload_n 2 dd_Mo_entry_113 rfl ?_
            refine jj_rS (n := 79) hS dd_Mo_entry_114 ff_Mo_54 rfl (fun _ => rfl) rfl ?_
            refine jj_iload_n 3 dd_Mo_entry_117 rfl ?_
            refine jj_dup2 dd_Mo_entry_118 rfl rfl ?_
            refine jj_aS hS dd_Mo_entry_119 rfl (vp_in_nI (n := t) (by omega) (by decide)) (t) (nI_clamp (n := t) (by omega)) ?_
            refine jj_iload_n 0 dd_Mo_entry_120 rfl ?_
            refine jj_if_eq (tgt := 128) dd_Mo_entry_121 (by decide) (fun _ => ?_) (fun h => absurd h (by decide))
            refine jj_iconst (v := 0) dd_Mo_entry_128 rfl ?_
            refine jj_iadd dd_Mo_entry_129 ?_
            refine jj_asS hS dd_Mo_entry_130 rfl (vp_in_nI (n := t) (by omega) (by decide)) (t) (nI_clamp (n := t) (by omega)) (fun M hS => ?_)
            refine jj_iload_n 0 dd_Mo_entry_131 rfl ?_
            refine jj_iret dd_Mo_entry_132 rfl rfl ?_
            refine ⟨_, hS, ?_⟩
            first | (exfalso; simp [uf_at, -Int32.not_lt, -Int32.not_le] at h8 h39 h61 h81 h104; done) | (simp [uf_at, -Int32.not_lt, -Int32.not_le] at h8 h39 h61 h81 h104; simpa [uf_at, uf_same, en_F, en_g, en_f, en_l, -Int32.not_lt, -Int32.not_le, h8, h39, h61, h81, h104] using hQ) | (simpa [uf_at, uf_same, en_F, en_g, en_f, en_l, -Int32.not_lt, -Int32.not_le, h8, h39, h61, h81, h104] using hQ)
          · skip
            refine jj_iconst (v := 1) dd_Mo_entry_107 rfl ?_
            refine jj_goto (tgt := 112) dd_Mo_entry_108 (by decide) ?_
            refine jj_istore_n (lv' := [(3, .int (1)), (2, .int (1)), (0, .ref (g 60)), (1, .int (nI (t)))]) dd_Mo_entry_112 (Nat.le_of_ble_eq_true rfl) rfl ?_
            refine jj_aload_n 2 dd_Mo_entry_113 rfl ?_
            refine jj_rS (n := 79) hS dd_Mo_entry_114 ff_Mo_54 rfl (fun _ => rfl) rfl ?_
            refine jj_iload_n 3 dd_Mo_entry_117 rfl ?_
            refine jj_dup2 dd_Mo_entry_118 rfl rfl ?_
            refine jj_aS hS dd_Mo_entry_119 rfl (vp_in_nI (n := t) (by omega) (by decide)) (t) (nI_clamp (n := t) (by omega)) ?_
            refine jj_iload_n 0 dd_Mo_entry_120 rfl ?_
            refine jj_if_eq (tgt := 128) dd_Mo_entry_121 (by decide) (fun h => absurd h (by decide)) (fun _ => ?_)
            refine jj_iconst (v := 1) dd_Mo_entry_124 rfl ?_
            refine jj_goto (tgt := 129) dd_Mo_entry_125 (by decide) ?_
            refine jj_iadd dd_Mo_entry_129 ?_
            refine jj_asS hS dd_Mo_entry_130 rfl (vp_in_nI (n := t) (by omega) (by decide)) (t) (nI_clamp (n := t) (by omega)) (fun M hS => ?_)
            refine jj_iload_n 0 dd_Mo_entry_131 rfl ?_
            refine jj_iret dd_Mo_entry_132 rfl rfl ?_
            refine ⟨_, hS, ?_⟩
            first | (exfalso; simp [uf_at, -Int32.not_lt, -Int32.not_le] at h8 h39 h61 h81 h104; done) | (simp [uf_at, -Int32.not_lt, -Int32.not_le] at h8 h39 h61 h81 h104; simpa [uf_at, uf_same, en_F, en_g, en_f, en_l, -Int32.not_lt, -Int32.not_le, h8, h39, h61, h81, h104] using hQ) | (simpa [uf_at, uf_same, en_F, en_g, en_f, en_l, -Int32.not_lt, -Int32.not_le, h8, h39, h61, h81, h104] using hQ)
    · skip
      refine jj_aload_n 0 dd_Mo_entry_42 rfl ?_
      refine jj_rS (n := 81) hS dd_Mo_entry_43 ff_Mo_60 rfl (fun _ => rfl) rfl ?_
      refine jj_iload_n 1 dd_Mo_entry_46 rfl ?_
      refine jj_aS hS dd_Mo_entry_47 rfl (vp_in_nI (n := t) (by omega) (by decide)) (t) (nI_clamp (n := t) (by omega)) ?_
      refine jj_iconst (v := 1) dd_Mo_entry_48 rfl ?_
      refine jj_isub dd_Mo_entry_49 ?_
      refine jj_goto (tgt := 54) dd_Mo_entry_50 (by decide) ?_
      refine jj_asS hS dd_Mo_entry_54 rfl (vp_in_nI (n := t) (by omega) (by decide)) (t) (nI_clamp (n := t) (by omega)) (fun M hS => ?_)
      refine jj_aload_n 0 dd_Mo_entry_55 rfl ?_
      refine jj_rS (n := 81) hS dd_Mo_entry_56 ff_Mo_60 rfl (fun _ => rfl) rfl ?_
      refine jj_iload_n 1 dd_Mo_entry_59 rfl ?_
      refine jj_aS hS dd_Mo_entry_60 rfl (vp_in_nI (n := t) (by omega) (by decide)) (t) (nI_clamp (n := t) (by omega)) ?_
      refine jj_if_ne (tgt := 68) dd_Mo_entry_61 (by decide) (fun h61 => ?_) (fun h61 => ?_)
      · skip
        refine jj_iconst (v := 0) dd_Mo_entry_68 rfl ?_
        refine jj_istore_n (lv' := [(2, .int (0)), (0, .ref (g 60)), (1, .int (nI (t)))]) dd_Mo_entry_69 (Nat.le_of_ble_eq_true rfl) rfl ?_
        refine jj_aload_n 1 dd_Mo_entry_70 rfl ?_
        refine jj_rS (n := 77) hS dd_Mo_entry_71 ff_Mo_47 rfl (fun _ => rfl) rfl ?_
        refine jj_iload_n 2 dd_Mo_entry_74 rfl ?_
        refine jj_aload_n 1 dd_Mo_entry_75 rfl ?_
        refine jj_rS (n := 77) hS dd_Mo_entry_76 ff_Mo_47 rfl (fun _ => rfl) rfl ?_
        refine jj_iload_n 2 dd_Mo_entry_79 rfl ?_
        refine jj_zS hS dd_Mo_entry_80 rfl (vp_in_nI (n := t) (by omega) (by decide)) (t) (nI_clamp (n := t) (by omega)) ?_
        refine jj_if_ne (tgt := 88) dd_Mo_entry_81 (by decide) (fun h81 => ?_) (fun h81 => ?_)
        · skip
          refine jj_iconst (v := 1) dd_Mo_entry_88 rfl ?_
          refine jj_goto (tgt := 93) dd_Mo_entry_89 (by decide) ?_
          refine jj_zsS hS dd_Mo_entry_93 rfl (vp_in_nI (n := t) (by omega) (by decide)) rfl (t) (nI_clamp (n := t) (by omega)) (fun M hS => ?_)
          refine jj_iload_n 0 dd_Mo_entry_94 rfl ?_
          refine jj_if_eq (tgt := 107) dd_Mo_entry_95 (by decide) (fun _ => ?_) (fun h => absurd h (by decide))
          refine jj_iconst (v := 1) dd_Mo_entry_107 rfl ?_
          refine jj_goto (tgt := 112) dd_Mo_entry_108 (by decide) ?_
          refine jj_istore_n (lv' := [(3, .int (1)), (2, .int (0)), (0, .ref (g 60)), (1, .int (nI (t)))]) dd_Mo_entry_112 (Nat.le_of_ble_eq_true rfl) rfl ?_
          refine jj_aload_n 2 dd_Mo_entry_113 rfl ?_
          refine jj_rS (n := 79) hS dd_Mo_entry_114 ff_Mo_54 rfl (fun _ => rfl) rfl ?_
          refine jj_iload_n 3 dd_Mo_entry_117 rfl ?_
          refine jj_dup2 dd_Mo_entry_118 rfl rfl ?_
          refine jj_aS hS dd_Mo_entry_119 rfl (vp_in_nI (n := t) (by omega) (by decide)) (t) (nI_clamp (n := t) (by omega)) ?_
          refine jj_iload_n 0 dd_Mo_entry_120 rfl ?_
          refine jj_if_eq (tgt := 128) dd_Mo_entry_121 (by decide) (fun h => absurd h (by decide)) (fun _ => ?_)
          refine jj_iconst (v := 1) dd_Mo_entry_124 rfl ?_
          refine jj_goto (tgt := 129) dd_Mo_entry_125 (by decide) ?_
          refine jj_iadd dd_Mo_entry_129 ?_
          refine jj_asS hS dd_Mo_entry_130 rfl (vp_in_nI (n := t) (by omega) (by decide)) (t) (nI_clamp (n := t) (by omega)) (fun M hS => ?_)
          refine jj_iload_n 0 dd_Mo_entry_131 rfl ?_
          refine jj_iret dd_Mo_entry_132 rfl rfl ?_
          refine ⟨_, hS, ?_⟩
          first | (exfalso; simp [uf_at, -Int32.not_lt, -Int32.not_le] at h8 h39 h61 h81; done) | (simp [uf_at, -Int32.not_lt, -Int32.not_le] at h8 h39 h61 h81; simpa [uf_at, uf_same, en_F, en_g, en_f, en_l, -Int32.not_lt, -Int32.not_le, h8, h39, h61, h81] using hQ) | (simpa [uf_at, uf_same, en_F, en_g, en_f, en_l, -Int32.not_lt, -Int32.not_le, h8, h39, h61, h81] using hQ)
        · skip
          refine jj_iload_n 0 dd_Mo_entry_84 rfl ?_
          refine jj_if_eq (tgt := 92) dd_Mo_entry_85 (by decide) (fun _ => ?_) (fun h => absurd h (by decide))
          refine jj_iconst (v := 0) dd_Mo_entry_92 rfl ?_
          refine jj_zsS hS dd_Mo_entry_93 rfl (vp_in_nI (n := t) (by omega) (by decide)) rfl (t) (nI_clamp (n := t) (by omega)) (fun M hS => ?_)
          refine jj_iload_n 0 dd_Mo_entry_94 rfl ?_
          refine jj_if_eq (tgt := 107) dd_Mo_entry_95 (by decide) (fun _ => ?_) (fun h => absurd h (by decide))
          refine jj_iconst (v := 1) dd_Mo_entry_107 rfl ?_
          refine jj_goto (tgt := 112) dd_Mo_entry_108 (by decide) ?_
          refine jj_istore_n (lv' := [(3, .int (1)), (2, .int (0)), (0, .ref (g 60)), (1, .int (nI (t)))]) dd_Mo_entry_112 (Nat.le_of_ble_eq_true rfl) rfl ?_
          refine jj_aload_n 2 dd_Mo_entry_113 rfl ?_
          refine jj_rS (n := 79) hS dd_Mo_entry_114 ff_Mo_54 rfl (fun _ => rfl) rfl ?_
          refine jj_iload_n 3 dd_Mo_entry_117 rfl ?_
          refine jj_dup2 dd_Mo_entry_118 rfl rfl ?_
          refine jj_aS hS dd_Mo_entry_119 rfl (vp_in_nI (n := t) (by omega) (by decide)) (t) (nI_clamp (n := t) (by omega)) ?_
          refine jj_iload_n 0 dd_Mo_entry_120 rfl ?_
          refine jj_if_eq (tgt := 128) dd_Mo_entry_121 (by decide) (fun h => absurd h (by decide)) (fun _ => ?_)
          refine jj_iconst (v := 1) dd_Mo_entry_124 rfl ?_
          refine jj_goto (tgt := 129) dd_Mo_entry_125 (by decide) ?_
          refine jj_iadd dd_Mo_entry_129 ?_
          refine jj_asS hS dd_Mo_entry_130 rfl (vp_in_nI (n := t) (by omega) (by decide)) (t) (nI_clamp (n := t) (by omega)) (fun M hS => ?_)
          refine jj_iload_n 0 dd_Mo_entry_131 rfl ?_
          refine jj_iret dd_Mo_entry_132 rfl rfl ?_
          refine ⟨_, hS, ?_⟩
          first | (exfalso; simp [uf_at, -Int32.not_lt, -Int32.not_le] at h8 h39 h61 h81; done) | (simp [uf_at, -Int32.not_lt, -Int32.not_le] at h8 h39 h61 h81; simpa [uf_at, uf_same, en_F, en_g, en_f, en_l, -Int32.not_lt, -Int32.not_le, h8, h39, h61, h81] using hQ) | (simpa [uf_at, uf_same, en_F, en_g, en_f, en_l, -Int32.not_lt, -Int32.not_le, h8, h39, h61, h81] using hQ)
      · skip
        refine jj_iconst (v := 1) dd_Mo_entry_64 rfl ?_
        refine jj_goto (tgt := 69) dd_Mo_entry_65 (by decide) ?_
        refine jj_istore_n (lv' := [(2, .int (1)), (0, .ref (g 60)), (1, .int (nI (t)))]) dd_Mo_entry_69 (Nat.le_of_ble_eq_true rfl) rfl ?_
        refine jj_aload_n 1 dd_Mo_entry_70 rfl ?_
        refine jj_rS (n := 77) hS dd_Mo_entry_71 ff_Mo_47 rfl (fun _ => rfl) rfl ?_
        refine jj_iload_n 2 dd_Mo_entry_74 rfl ?_
        refine jj_aload_n 1 dd_Mo_entry_75 rfl ?_
        refine jj_rS (n := 77) hS dd_Mo_entry_76 ff_Mo_47 rfl (fun _ => rfl) rfl ?_
        refine jj_iload_n 2 dd_Mo_entry_79 rfl ?_
        refine jj_zS hS dd_Mo_entry_80 rfl (vp_in_nI (n := t) (by omega) (by decide)) (t) (nI_clamp (n := t) (by omega)) ?_
        refine jj_if_ne (tgt := 88) dd_Mo_entry_81 (by decide) (fun h81 => ?_) (fun h81 => ?_)
        · skip
          refine jj_iconst (v := 1) dd_Mo_entry_88 rfl ?_
          refine jj_goto (tgt := 93) dd_Mo_entry_89 (by decide) ?_
          refine jj_zsS hS dd_Mo_entry_93 rfl (vp_in_nI (n := t) (by omega) (by decide)) rfl (t) (nI_clamp (n := t) (by omega)) (fun M hS => ?_)
          refine jj_iload_n 0 dd_Mo_entry_94 rfl ?_
          refine jj_if_eq (tgt := 107) dd_Mo_entry_95 (by decide) (fun h => absurd h (by decide)) (fun _ => ?_)
          refine jj_aload_n 1 dd_Mo_entry_98 rfl ?_
          refine jj_rS (n := 82) hS dd_Mo_entry_99 ff_Mo_63 rfl (fun _ => rfl) rfl ?_
          refine jj_iload_n 2 dd_Mo_entry_102 rfl ?_
          refine jj_zS hS dd_Mo_entry_103 rfl (vp_in_nI (n := t) (by omega) (by decide)) (t) (nI_clamp (n := t) (by omega)) ?_
          refine jj_if_eq (tgt := 111) dd_Mo_entry_104 (by decide) (fun h104 => ?_) (fun h104 => ?_)
          · skip
            refine jj_iconst (v := 0) dd_Mo_entry_111 rfl ?_
            refine jj_istore_n (lv' := [(3, .int (0)), (2, .int (1)), (0, .ref (g 60)), (1, .int (nI (t)))]) dd_Mo_entry_112 (Nat.le_of_ble_eq_true rfl) rfl ?_
            refine jj_aload_n 2 dd_Mo_entry_113 rfl ?_
            refine jj_rS (n := 79) hS dd_Mo_entry_114 ff_Mo_54 rfl (fun _ => rfl) rfl ?_
            refine jj_iload_n 3 dd_Mo_entry_117 rfl ?_
            refine jj_dup2 dd_Mo_entry_118 rfl rfl ?_
            refine jj_aS hS dd_Mo_entry_119 rfl (vp_in_nI (n := t) (by omega) (by decide)) (t) (nI_clamp (n := t) (by omega)) ?_
            refine jj_iload_n 0 dd_Mo_entry_120 rfl ?_
            refine jj_if_eq (tgt := 128) dd_Mo_entry_121 (by decide) (fun _ => ?_) (fun h => absurd h (by decide))
            refine jj_iconst (v := 0) dd_Mo_entry_128 rfl ?_
            refine jj_iadd dd_Mo_entry_129 ?_
            refine jj_asS hS dd_Mo_entry_130 rfl (vp_in_nI (n := t) (by omega) (by decide)) (t) (nI_clamp (n := t) (by omega)) (fun M hS => ?_)
            refine jj_iload_n 0 dd_Mo_entry_131 rfl ?_
            refine jj_iret dd_Mo_entry_132 rfl rfl ?_
            refine ⟨_, hS, ?_⟩
            first | (exfalso; simp [uf_at, -Int32.not_lt, -Int32.not_le] at h8 h39 h61 h81 h104; done) | (simp [uf_at, -Int32.not_lt, -Int32.not_le] at h8 h39 h61 h81 h104; simpa [uf_at, uf_same, en_F, en_g, en_f, en_l, -Int32.not_lt, -Int32.not_le, h8, h39, h61, h81, h104] using hQ) | (simpa [uf_at, uf_same, en_F, en_g, en_f, en_l, -Int32.not_lt, -Int32.not_le, h8, h39, h61, h81, h104] using hQ)
          · skip
            refine jj_iconst (v := 1) dd_Mo_entry_107 rfl ?_
            refine jj_goto (tgt := 112) dd_Mo_entry_108 (by decide) ?_
            refine jj_istore_n (lv' := [(3, .int (1)), (2, .int (1)), (0, .ref (g 60)), (1, .int (nI (t)))]) dd_Mo_entry_112 (Nat.le_of_ble_eq_true rfl) rfl ?_
            refine jj_aload_n 2 dd_Mo_entry_113 rfl ?_
            refine jj_rS (n := 79) hS dd_Mo_entry_114 ff_Mo_54 rfl (fun _ => rfl) rfl ?_
            refine jj_iload_n 3 dd_Mo_entry_117 rfl ?_
            refine jj_dup2 dd_Mo_entry_118 rfl rfl ?_
            refine jj_aS hS dd_Mo_entry_119 rfl (vp_in_nI (n := t) (by omega) (by decide)) (t) (nI_clamp (n := t) (by omega)) ?_
            refine jj_iload_n 0 dd_Mo_entry_120 rfl ?_
            refine jj_if_eq (tgt := 128) dd_Mo_entry_121 (by decide) (fun h => absurd h (by decide)) (fun _ => ?_)
            refine jj_iconst (v := 1) dd_Mo_entry_124 rfl ?_
            refine jj_goto (tgt := 129) dd_Mo_entry_125 (by decide) ?_
            refine jj_iadd dd_Mo_entry_129 ?_
            refine jj_asS hS dd_Mo_entry_130 rfl (vp_in_nI (n := t) (by omega) (by decide)) (t) (nI_clamp (n := t) (by omega)) (fun M hS => ?_)
            refine jj_iload_n 0 dd_Mo_entry_131 rfl ?_
            refine jj_iret dd_Mo_entry_132 rfl rfl ?_
            refine ⟨_, hS, ?_⟩
            first | (exfalso; simp [uf_at, -Int32.not_lt, -Int32.not_le] at h8 h39 h61 h81 h104; done) | (simp [uf_at, -Int32.not_lt, -Int32.not_le] at h8 h39 h61 h81 h104; simpa [uf_at, uf_same, en_F, en_g, en_f, en_l, -Int32.not_lt, -Int32.not_le, h8, h39, h61, h81, h104] using hQ) | (simpa [uf_at, uf_same, en_F, en_g, en_f, en_l, -Int32.not_lt, -Int32.not_le, h8, h39, h61, h81, h104] using hQ)
        · skip
          refine jj_iload_n 0 dd_Mo_entry_84 rfl ?_
          refine jj_if_eq (tgt := 92) dd_Mo_entry_85 (by decide) (fun h => absurd h (by decide)) (fun _ => ?_)
          refine jj_iconst (v := 1) dd_Mo_entry_88 rfl ?_
          refine jj_goto (tgt := 93) dd_Mo_entry_89 (by decide) ?_
          refine jj_zsS hS dd_Mo_entry_93 rfl (vp_in_nI (n := t) (by omega) (by decide)) rfl (t) (nI_clamp (n := t) (by omega)) (fun M hS => ?_)
          refine jj_iload_n 0 dd_Mo_entry_94 rfl ?_
          refine jj_if_eq (tgt := 107) dd_Mo_entry_95 (by decide) (fun h => absurd h (by decide)) (fun _ => ?_)
          refine jj_aload_n 1 dd_Mo_entry_98 rfl ?_
          refine jj_rS (n := 82) hS dd_Mo_entry_99 ff_Mo_63 rfl (fun _ => rfl) rfl ?_
          refine jj_iload_n 2 dd_Mo_entry_102 rfl ?_
          refine jj_zS hS dd_Mo_entry_103 rfl (vp_in_nI (n := t) (by omega) (by decide)) (t) (nI_clamp (n := t) (by omega)) ?_
          refine jj_if_eq (tgt := 111) dd_Mo_entry_104 (by decide) (fun h104 => ?_) (fun h104 => ?_)
          · skip
            refine jj_iconst (v := 0) dd_Mo_entry_111 rfl ?_
            refine jj_istore_n (lv' := [(3, .int (0)), (2, .int (1)), (0, .ref (g 60)), (1, .int (nI (t)))]) dd_Mo_entry_112 (Nat.le_of_ble_eq_true rfl) rfl ?_
            refine jj_aload_n 2 dd_Mo_entry_113 rfl ?_
            refine jj_rS (n := 79) hS dd_Mo_entry_114 ff_Mo_54 rfl (fun _ => rfl) rfl ?_
            refine jj_iload_n 3 dd_Mo_entry_117 rfl ?_
            refine jj_dup2 dd_Mo_entry_118 rfl rfl ?_
            refine jj_aS hS dd_Mo_entry_119 rfl (vp_in_nI (n := t) (by omega) (by decide)) (t) (nI_clamp (n := t) (by omega)) ?_
            refine jj_iload_n 0 dd_Mo_entry_120 rfl ?_
            refine jj_if_eq (tgt := 128) dd_Mo_entry_121 (by decide) (fun _ => ?_) (fun h => absurd h (by decide))
            refine jj_iconst (v := 0) dd_Mo_entry_128 rfl ?_
            refine jj_iadd dd_Mo_entry_129 ?_
            refine jj_asS hS dd_Mo_entry_130 rfl (vp_in_nI (n := t) (by omega) (by decide)) (t) (nI_clamp (n := t) (by omega)) (fun M hS => ?_)
            refine jj_iload_n 0 dd_Mo_entry_131 rfl ?_
            refine jj_iret dd_Mo_entry_132 rfl rfl ?_
            refine ⟨_, hS, ?_⟩
            first | (exfalso; simp [uf_at, -Int32.not_lt, -Int32.not_le] at h8 h39 h61 h81 h104; done) | (simp [uf_at, -Int32.not_lt, -Int32.not_le] at h8 h39 h61 h81 h104; simpa [uf_at, uf_same, en_F, en_g, en_f, en_l, -Int32.not_lt, -Int32.not_le, h8, h39, h61, h81, h104] using hQ) | (simpa [uf_at, uf_same, en_F, en_g, en_f, en_l, -Int32.not_lt, -Int32.not_le, h8, h39, h61, h81, h104] using hQ)
          · skip
            refine jj_iconst (v := 1) dd_Mo_entry_107 rfl ?_
            refine jj_goto (tgt := 112) dd_Mo_entry_108 (by decide) ?_
            refine jj_istore_n (lv' := [(3, .int (1)), (2, .int (1)), (0, .ref (g 60)), (1, .int (nI (t)))]) dd_Mo_entry_112 (Nat.le_of_ble_eq_true rfl) rfl ?_
            refine jj_aload_n 2 dd_Mo_entry_113 rfl ?_
            refine jj_rS (n := 79) hS dd_Mo_entry_114 ff_Mo_54 rfl (fun _ => rfl) rfl ?_
            refine jj_iload_n 3 dd_Mo_entry_117 rfl ?_
            refine jj_dup2 dd_Mo_entry_118 rfl rfl ?_
            refine jj_aS hS dd_Mo_entry_119 rfl (vp_in_nI (n := t) (by omega) (by decide)) (t) (nI_clamp (n := t) (by omega)) ?_
            refine jj_iload_n 0 dd_Mo_entry_120 rfl ?_
            refine jj_if_eq (tgt := 128) dd_Mo_entry_121 (by decide) (fun h => absurd h (by decide)) (fun _ => ?_)
            refine jj_iconst (v := 1) dd_Mo_entry_124 rfl ?_
            refine jj_goto (tgt := 129) dd_Mo_entry_125 (by decide) ?_
            refine jj_iadd dd_Mo_entry_129 ?_
            refine jj_asS hS dd_Mo_entry_130 rfl (vp_in_nI (n := t) (by omega) (by decide)) (t) (nI_clamp (n := t) (by omega)) (fun M hS => ?_)
            refine jj_iload_n 0 dd_Mo_entry_131 rfl ?_
            refine jj_iret dd_Mo_entry_132 rfl rfl ?_
            refine ⟨_, hS, ?_⟩
            first | (exfalso; simp [uf_at, -Int32.not_lt, -Int32.not_le] at h8 h39 h61 h81 h104; done) | (simp [uf_at, -Int32.not_lt, -Int32.not_le] at h8 h39 h61 h81 h104; simpa [uf_at, uf_same, en_F, en_g, en_f, en_l, -Int32.not_lt, -Int32.not_le, h8, h39, h61, h81, h104] using hQ) | (simpa [uf_at, uf_same, en_F, en_g, en_f, en_l, -Int32.not_lt, -Int32.not_le, h8, h39, h61, h81, h104] using hQ)
  · skip
    refine jj_aload_n 0 dd_Mo_entry_11 rfl ?_
    refine jj_rS (n := 79) hS dd_Mo_entry_12 ff_Mo_54 rfl (fun _ => rfl) rfl ?_
    refine jj_iload_n 1 dd_Mo_entry_15 rfl ?_
    refine jj_iconst (v := 0) dd_Mo_entry_16 rfl ?_
    refine jj_asS hS dd_Mo_entry_17 rfl (vp_in_nI (n := t) (by omega) (by decide)) (t) (nI_clamp (n := t) (by omega)) (fun M hS => ?_)
    refine jj_aload_n 0 dd_Mo_entry_18 rfl ?_
    refine jj_rS (n := 80) hS dd_Mo_entry_19 ff_Mo_57 rfl (fun _ => rfl) rfl ?_
    refine jj_iload_n 1 dd_Mo_entry_22 rfl ?_
    refine jj_dup2 dd_Mo_entry_23 rfl rfl ?_
    refine jj_aS hS dd_Mo_entry_24 rfl (vp_in_nI (n := t) (by omega) (by decide)) (t) (nI_clamp (n := t) (by omega)) ?_
    refine jj_iconst (v := 1) dd_Mo_entry_25 rfl ?_
    refine jj_iadd dd_Mo_entry_26 ?_
    refine jj_asS hS dd_Mo_entry_27 rfl (vp_in_nI (n := t) (by omega) (by decide)) (t) (nI_clamp (n := t) (by omega)) (fun M hS => ?_)
    refine jj_aload_n 0 dd_Mo_entry_28 rfl ?_
    refine jj_rS (n := 81) hS dd_Mo_entry_29 ff_Mo_60 rfl (fun _ => rfl) rfl ?_
    refine jj_iload_n 1 dd_Mo_entry_32 rfl ?_
    refine jj_aload_n 0 dd_Mo_entry_33 rfl ?_
    refine jj_rS (n := 81) hS dd_Mo_entry_34 ff_Mo_60 rfl (fun _ => rfl) rfl ?_
    refine jj_iload_n 1 dd_Mo_entry_37 rfl ?_
    refine jj_aS hS dd_Mo_entry_38 rfl (vp_in_nI (n := t) (by omega) (by decide)) (t) (nI_clamp (n := t) (by omega)) ?_
    refine jj_if_le (tgt := 53) dd_Mo_entry_39 (by decide) (fun h39 => ?_) (fun h39 => ?_)
    · skip
      refine jj_iconst (v := (-1)) dd_Mo_entry_53 rfl ?_
      refine jj_asS hS dd_Mo_entry_54 rfl (vp_in_nI (n := t) (by omega) (by decide)) (t) (nI_clamp (n := t) (by omega)) (fun M hS => ?_)
      refine jj_aload_n 0 dd_Mo_entry_55 rfl ?_
      refine jj_rS (n := 81) hS dd_Mo_entry_56 ff_Mo_60 rfl (fun _ => rfl) rfl ?_
      refine jj_iload_n 1 dd_Mo_entry_59 rfl ?_
      refine jj_aS hS dd_Mo_entry_60 rfl (vp_in_nI (n := t) (by omega) (by decide)) (t) (nI_clamp (n := t) (by omega)) ?_
      refine jj_if_ne (tgt := 68) dd_Mo_entry_61 (by decide) (fun h61 => ?_) (fun h61 => ?_)
      · skip
        refine jj_iconst (v := 0) dd_Mo_entry_68 rfl ?_
        refine jj_istore_n (lv' := [(2, .int (0)), (0, .ref (g 60)), (1, .int (nI (t)))]) dd_Mo_entry_69 (Nat.le_of_ble_eq_true rfl) rfl ?_
        refine jj_aload_n 1 dd_Mo_entry_70 rfl ?_
        refine jj_rS (n := 77) hS dd_Mo_entry_71 ff_Mo_47 rfl (fun _ => rfl) rfl ?_
        refine jj_iload_n 2 dd_Mo_entry_74 rfl ?_
        refine jj_aload_n 1 dd_Mo_entry_75 rfl ?_
        refine jj_rS (n := 77) hS dd_Mo_entry_76 ff_Mo_47 rfl (fun _ => rfl) rfl ?_
        refine jj_iload_n 2 dd_Mo_entry_79 rfl ?_
        refine jj_zS hS dd_Mo_entry_80 rfl (vp_in_nI (n := t) (by omega) (by decide)) (t) (nI_clamp (n := t) (by omega)) ?_
        refine jj_if_ne (tgt := 88) dd_Mo_entry_81 (by decide) (fun h81 => ?_) (fun h81 => ?_)
        · skip
          refine jj_iconst (v := 1) dd_Mo_entry_88 rfl ?_
          refine jj_goto (tgt := 93) dd_Mo_entry_89 (by decide) ?_
          refine jj_zsS hS dd_Mo_entry_93 rfl (vp_in_nI (n := t) (by omega) (by decide)) rfl (t) (nI_clamp (n := t) (by omega)) (fun M hS => ?_)
          refine jj_iload_n 0 dd_Mo_entry_94 rfl ?_
          refine jj_if_eq (tgt := 107) dd_Mo_entry_95 (by decide) (fun _ => ?_) (fun h => absurd h (by decide))
          refine jj_iconst (v := 1) dd_Mo_entry_107 rfl ?_
          refine jj_goto (tgt := 112) dd_Mo_entry_108 (by decide) ?_
          refine jj_istore_n (lv' := [(3, .int (1)), (2, .int (0)), (0, .ref (g 60)), (1, .int (nI (t)))]) dd_Mo_entry_112 (Nat.le_of_ble_eq_true rfl) rfl ?_
          refine jj_aload_n 2 dd_Mo_entry_113 rfl ?_
          refine jj_rS (n := 79) hS dd_Mo_entry_114 ff_Mo_54 rfl (fun _ => rfl) rfl ?_
          refine jj_iload_n 3 dd_Mo_entry_117 rfl ?_
          refine jj_dup2 dd_Mo_entry_118 rfl rfl ?_
          refine jj_aS hS dd_Mo_entry_119 rfl (vp_in_nI (n := t) (by omega) (by decide)) (t) (nI_clamp (n := t) (by omega)) ?_
          refine jj_iload_n 0 dd_Mo_entry_120 rfl ?_
          refine jj_if_eq (tgt := 128) dd_Mo_entry_121 (by decide) (fun h => absurd h (by decide)) (fun _ => ?_)
          refine jj_iconst (v := 1) dd_Mo_entry_124 rfl ?_
          refine jj_goto (tgt := 129) dd_Mo_entry_125 (by decide) ?_
          refine jj_iadd dd_Mo_entry_129 ?_
          refine jj_asS hS dd_Mo_entry_130 rfl (vp_in_nI (n := t) (by omega) (by decide)) (t) (nI_clamp (n := t) (by omega)) (fun M hS => ?_)
          refine jj_iload_n 0 dd_Mo_entry_131 rfl ?_
          refine jj_iret dd_Mo_entry_132 rfl rfl ?_
          refine ⟨_, hS, ?_⟩
          first | (exfalso; simp [uf_at, -Int32.not_lt, -Int32.not_le] at h8 h39 h61 h81; done) | (simp [uf_at, -Int32.not_lt, -Int32.not_le] at h8 h39 h61 h81; simpa [uf_at, uf_same, en_F, en_g, en_f, en_l, -Int32.not_lt, -Int32.not_le, h8, h39, h61, h81] using hQ) | (simpa [uf_at, uf_same, en_F, en_g, en_f, en_l, -Int32.not_lt, -Int32.not_le, h8, h39, h61, h81] using hQ)
        · skip
          refine jj_iload_n 0 dd_Mo_entry_84 rfl ?_
          refine jj_if_eq (tgt := 92) dd_Mo_entry_85 (by decide) (fun _ => ?_) (fun h => absurd h (by decide))
          refine jj_iconst (v := 0) dd_Mo_entry_92 rfl ?_
          refine jj_zsS hS dd_Mo_entry_93 rfl (vp_in_nI (n := t) (by omega) (by decide)) rfl (t) (nI_clamp (n := t) (by omega)) (fun M hS => ?_)
          refine jj_iload_n 0 dd_Mo_entry_94 rfl ?_
          refine jj_if_eq (tgt := 107) dd_Mo_entry_95 (by decide) (fun _ => ?_) (fun h => absurd h (by decide))
          refine jj_iconst (v := 1) dd_Mo_entry_107 rfl ?_
          refine jj_goto (tgt := 112) dd_Mo_entry_108 (by decide) ?_
          refine jj_istore_n (lv' := [(3, .int (1)), (2, .int (0)), (0, .ref (g 60)), (1, .int (nI (t)))]) dd_Mo_entry_112 (Nat.le_of_ble_eq_true rfl) rfl ?_
          refine jj_aload_n 2 dd_Mo_entry_113 rfl ?_
          refine jj_rS (n := 79) hS dd_Mo_entry_114 ff_Mo_54 rfl (fun _ => rfl) rfl ?_
          refine jj_iload_n 3 dd_Mo_entry_117 rfl ?_
          refine jj_dup2 dd_Mo_entry_118 rfl rfl ?_
          refine jj_aS hS dd_Mo_entry_119 rfl (vp_in_nI (n := t) (by omega) (by decide)) (t) (nI_clamp (n := t) (by omega)) ?_
          refine jj_iload_n 0 dd_Mo_entry_120 rfl ?_
          refine jj_if_eq (tgt := 128) dd_Mo_entry_121 (by decide) (fun h => absurd h (by decide)) (fun _ => ?_)
          refine jj_iconst (v := 1) dd_Mo_entry_124 rfl ?_
          refine jj_goto (tgt := 129) dd_Mo_entry_125 (by decide) ?_
          refine jj_iadd dd_Mo_entry_129 ?_
          refine jj_asS hS dd_Mo_entry_130 rfl (vp_in_nI (n := t) (by omega) (by decide)) (t) (nI_clamp (n := t) (by omega)) (fun M hS => ?_)
          refine jj_iload_n 0 dd_Mo_entry_131 rfl ?_
          refine jj_iret dd_Mo_entry_132 rfl rfl ?_
          refine ⟨_, hS, ?_⟩
          first | (exfalso; simp [uf_at, -Int32.not_lt, -Int32.not_le] at h8 h39 h61 h81; done) | (simp [uf_at, -Int32.not_lt, -Int32.not_le] at h8 h39 h61 h81; simpa [uf_at, uf_same, en_F, en_g, en_f, en_l, -Int32.not_lt, -Int32.not_le, h8, h39, h61, h81] using hQ) | (simpa [uf_at, uf_same, en_F, en_g, en_f, en_l, -Int32.not_lt, -Int32.not_le, h8, h39, h61, h81] using hQ)
      · skip
        refine jj_iconst (v := 1) dd_Mo_entry_64 rfl ?_
        refine jj_goto (tgt := 69) dd_Mo_entry_65 (by decide) ?_
        refine jj_istore_n (lv' := [(2, .int (1)), (0, .ref (g 60)), (1, .int (nI (t)))]) dd_Mo_entry_69 (Nat.le_of_ble_eq_true rfl) rfl ?_
        refine jj_aload_n 1 dd_Mo_entry_70 rfl ?_
        refine jj_rS (n := 77) hS dd_Mo_entry_71 ff_Mo_47 rfl (fun _ => rfl) rfl ?_
        refine jj_iload_n 2 dd_Mo_entry_74 rfl ?_
        refine jj_aload_n 1 dd_Mo_entry_75 rfl ?_
        refine jj_rS (n := 77) hS dd_Mo_entry_76 ff_Mo_47 rfl (fun _ => rfl) rfl ?_
        refine jj_iload_n 2 dd_Mo_entry_79 rfl ?_
        refine jj_zS hS dd_Mo_entry_80 rfl (vp_in_nI (n := t) (by omega) (by decide)) (t) (nI_clamp (n := t) (by omega)) ?_
        refine jj_if_ne (tgt := 88) dd_Mo_entry_81 (by decide) (fun h81 => ?_) (fun h81 => ?_)
        · skip
          refine jj_iconst (v := 1) dd_Mo_entry_88 rfl ?_
          refine jj_goto (tgt := 93) dd_Mo_entry_89 (by decide) ?_
          refine jj_zsS hS dd_Mo_entry_93 rfl (vp_in_nI (n := t) (by omega) (by decide)) rfl (t) (nI_clamp (n := t) (by omega)) (fun M hS => ?_)
          refine jj_iload_n 0 dd_Mo_entry_94 rfl ?_
          refine jj_if_eq (tgt := 107) dd_Mo_entry_95 (by decide) (fun h => absurd h (by decide)) (fun _ => ?_)
          refine jj_aload_n 1 dd_Mo_entry_98 rfl ?_
          refine jj_rS (n := 82) hS dd_Mo_entry_99 ff_Mo_63 rfl (fun _ => rfl) rfl ?_
          refine jj_iload_n 2 dd_Mo_entry_102 rfl ?_
          refine jj_zS hS dd_Mo_entry_103 rfl (vp_in_nI (n := t) (by omega) (by decide)) (t) (nI_clamp (n := t) (by omega)) ?_
          refine jj_if_eq (tgt := 111) dd_Mo_entry_104 (by decide) (fun h104 => ?_) (fun h104 => ?_)
          · skip
            refine jj_iconst (v := 0) dd_Mo_entry_111 rfl ?_
            refine jj_istore_n (lv' := [(3, .int (0)), (2, .int (1)), (0, .ref (g 60)), (1, .int (nI (t)))]) dd_Mo_entry_112 (Nat.le_of_ble_eq_true rfl) rfl ?_
            refine jj_aload_n 2 dd_Mo_entry_113 rfl ?_
            refine jj_rS (n := 79) hS dd_Mo_entry_114 ff_Mo_54 rfl (fun _ => rfl) rfl ?_
            refine jj_iload_n 3 dd_Mo_entry_117 rfl ?_
            refine jj_dup2 dd_Mo_entry_118 rfl rfl ?_
            refine jj_aS hS dd_Mo_entry_119 rfl (vp_in_nI (n := t) (by omega) (by decide)) (t) (nI_clamp (n := t) (by omega)) ?_
            refine jj_iload_n 0 dd_Mo_entry_120 rfl ?_
            refine jj_if_eq (tgt := 128) dd_Mo_entry_121 (by decide) (fun _ => ?_) (fun h => absurd h (by decide))
            refine jj_iconst (v := 0) dd_Mo_entry_128 rfl ?_
            refine jj_iadd dd_Mo_entry_129 ?_
            refine jj_asS hS dd_Mo_entry_130 rfl (vp_in_nI (n := t) (by omega) (by decide)) (t) (nI_clamp (n := t) (by omega)) (fun M hS => ?_)
            refine jj_iload_n 0 dd_Mo_entry_131 rfl ?_
            refine jj_iret dd_Mo_entry_132 rfl rfl ?_
            refine ⟨_, hS, ?_⟩
            first | (exfalso; simp [uf_at, -Int32.not_lt, -Int32.not_le] at h8 h39 h61 h81 h104; done) | (simp [uf_at, -Int32.not_lt, -Int32.not_le] at h8 h39 h61 h81 h104; simpa [uf_at, uf_same, en_F, en_g, en_f, en_l, -Int32.not_lt, -Int32.not_le, h8, h39, h61, h81, h104] using hQ) | (simpa [uf_at, uf_same, en_F, en_g, en_f, en_l, -Int32.not_lt, -Int32.not_le, h8, h39, h61, h81, h104] using hQ)
          · skip
            refine jj_iconst (v := 1) dd_Mo_entry_107 rfl ?_
            refine jj_goto (tgt := 112) dd_Mo_entry_108 (by decide) ?_
            refine jj_istore_n (lv' := [(3, .int (1)), (2, .int (1)), (0, .ref (g 60)), (1, .int (nI (t)))]) dd_Mo_entry_112 (Nat.le_of_ble_eq_true rfl) rfl ?_
            refine jj_aload_n 2 dd_Mo_entry_113 rfl ?_
            refine jj_rS (n := 79) hS dd_Mo_entry_114 ff_Mo_54 rfl (fun _ => rfl) rfl ?_
            refine jj_iload_n 3 dd_Mo_entry_117 rfl ?_
            refine jj_dup2 dd_Mo_entry_118 rfl rfl ?_
            refine jj_aS hS dd_Mo_entry_119 rfl (vp_in_nI (n := t) (by omega) (by decide)) (t) (nI_clamp (n := t) (by omega)) ?_
            refine jj_iload_n 0 dd_Mo_entry_120 rfl ?_
            refine jj_if_eq (tgt := 128) dd_Mo_entry_121 (by decide) (fun h => absurd h (by decide)) (fun _ => ?_)
            refine jj_iconst (v := 1) dd_Mo_entry_124 rfl ?_
            refine jj_goto (tgt := 129) dd_Mo_entry_125 (by decide) ?_
            refine jj_iadd dd_Mo_entry_129 ?_
            refine jj_asS hS dd_Mo_entry_130 rfl (vp_in_nI (n := t) (by omega) (by decide)) (t) (nI_clamp (n := t) (by omega)) (fun M hS => ?_)
            refine jj_iload_n 0 dd_Mo_entry_131 rfl ?_
            refine jj_iret dd_Mo_entry_132 rfl rfl ?_
            refine ⟨_, hS, ?_⟩
            first | (exfalso; simp [uf_at, -Int32.not_lt, -Int32.not_le] at h8 h39 h61 h81 h104; done) | (simp [uf_at, -Int32.not_lt, -Int32.not_le] at h8 h39 h61 h81 h104; simpa [uf_at, uf_same, en_F, en_g, en_f, en_l, -Int32.not_lt, -Int32.not_le, h8, h39, h61, h81, h104] using hQ) | (simpa [uf_at, uf_same, en_F, en_g, en_f, en_l, -Int32.not_lt, -Int32.not_le, h8, h39, h61, h81, h104] using hQ)
        · skip
          refine jj_iload_n 0 dd_Mo_entry_84 rfl ?_
          refine jj_if_eq (tgt := 92) dd_Mo_entry_85 (by decide) (fun h => absurd h (by decide)) (fun _ => ?_)
          refine jj_iconst (v := 1) dd_Mo_entry_88 rfl ?_
          refine jj_goto (tgt := 93) dd_Mo_entry_89 (by decide) ?_
          refine jj_zsS hS dd_Mo_entry_93 rfl (vp_in_nI (n := t) (by omega) (by decide)) rfl (t) (nI_clamp (n := t) (by omega)) (fun M hS => ?_)
          refine jj_iload_n 0 dd_Mo_entry_94 rfl ?_
          refine jj_if_eq (tgt := 107) dd_Mo_entry_95 (by decide) (fun h => absurd h (by decide)) (fun _ => ?_)
          refine jj_aload_n 1 dd_Mo_entry_98 rfl ?_
          refine jj_rS (n := 82) hS dd_Mo_entry_99 ff_Mo_63 rfl (fun _ => rfl) rfl ?_
          refine jj_iload_n 2 dd_Mo_entry_102 rfl ?_
          refine jj_zS hS dd_Mo_entry_103 rfl (vp_in_nI (n := t) (by omega) (by decide)) (t) (nI_clamp (n := t) (by omega)) ?_
          refine jj_if_eq (tgt := 111) dd_Mo_entry_104 (by decide) (fun h104 => ?_) (fun h104 => ?_)
          · skip
            refine jj_iconst (v := 0) dd_Mo_entry_111 rfl ?_
            refine jj_istore_n (lv' := [(3, .int (0)), (2, .int (1)), (0, .ref (g 60)), (1, .int (nI (t)))]) dd_Mo_entry_112 (Nat.le_of_ble_eq_true rfl) rfl ?_
            refine jj_aload_n 2 dd_Mo_entry_113 rfl ?_
            refine jj_rS (n := 79) hS dd_Mo_entry_114 ff_Mo_54 rfl (fun _ => rfl) rfl ?_
            refine jj_iload_n 3 dd_Mo_entry_117 rfl ?_
            refine jj_dup2 dd_Mo_entry_118 rfl rfl ?_
            refine jj_aS hS dd_Mo_entry_119 rfl (vp_in_nI (n := t) (by omega) (by decide)) (t) (nI_clamp (n := t) (by omega)) ?_
            refine jj_iload_n 0 dd_Mo_entry_120 rfl ?_
            refine jj_if_eq (tgt := 128) dd_Mo_entry_121 (by decide) (fun _ => ?_) (fun h => absurd h (by decide))
            refine jj_iconst (v := 0) dd_Mo_entry_128 rfl ?_
            refine jj_iadd dd_Mo_entry_129 ?_
            refine jj_asS hS dd_Mo_entry_130 rfl (vp_in_nI (n := t) (by omega) (by decide)) (t) (nI_clamp (n := t) (by omega)) (fun M hS => ?_)
            refine jj_iload_n 0 dd_Mo_entry_131 rfl ?_
            refine jj_iret dd_Mo_entry_132 rfl rfl ?_
            refine ⟨_, hS, ?_⟩
            first | (exfalso; simp [uf_at, -Int32.not_lt, -Int32.not_le] at h8 h39 h61 h81 h104; done) | (simp [uf_at, -Int32.not_lt, -Int32.not_le] at h8 h39 h61 h81 h104; simpa [uf_at, uf_same, en_F, en_g, en_f, en_l, -Int32.not_lt, -Int32.not_le, h8, h39, h61, h81, h104] using hQ) | (simpa [uf_at, uf_same, en_F, en_g, en_f, en_l, -Int32.not_lt, -Int32.not_le, h8, h39, h61, h81, h104] using hQ)
          · skip
            refine jj_iconst (v := 1) dd_Mo_entry_107 rfl ?_
            refine jj_goto (tgt := 112) dd_Mo_entry_108 (by decide) ?_
            refine jj_istore_n (lv' := [(3, .int (1)), (2, .int (1)), (0, .ref (g 60)), (1, .int (nI (t)))]) dd_Mo_entry_112 (Nat.le_of_ble_eq_true rfl) rfl ?_
            refine jj_aload_n 2 dd_Mo_entry_113 rfl ?_
            refine jj_rS (n := 79) hS dd_Mo_entry_114 ff_Mo_54 rfl (fun _ => rfl) rfl ?_
            refine jj_iload_n 3 dd_Mo_entry_117 rfl ?_
            refine jj_dup2 dd_Mo_entry_118 rfl rfl ?_
            refine jj_aS hS dd_Mo_entry_119 rfl (vp_in_nI (n := t) (by omega) (by decide)) (t) (nI_clamp (n := t) (by omega)) ?_
            refine jj_iload_n 0 dd_Mo_entry_120 rfl ?_
            refine jj_if_eq (tgt := 128) dd_Mo_entry_121 (by decide) (fun h => absurd h (by decide)) (fun _ => ?_)
            refine jj_iconst (v := 1) dd_Mo_entry_124 rfl ?_
            refine jj_goto (tgt := 129) dd_Mo_entry_125 (by decide) ?_
            refine jj_iadd dd_Mo_entry_129 ?_
            refine jj_asS hS dd_Mo_entry_130 rfl (vp_in_nI (n := t) (by omega) (by decide)) (t) (nI_clamp (n := t) (by omega)) (fun M hS => ?_)
            refine jj_iload_n 0 dd_Mo_entry_131 rfl ?_
            refine jj_iret dd_Mo_entry_132 rfl rfl ?_
            refine ⟨_, hS, ?_⟩
            first | (exfalso; simp [uf_at, -Int32.not_lt, -Int32.not_le] at h8 h39 h61 h81 h104; done) | (simp [uf_at, -Int32.not_lt, -Int32.not_le] at h8 h39 h61 h81 h104; simpa [uf_at, uf_same, en_F, en_g, en_f, en_l, -Int32.not_lt, -Int32.not_le, h8, h39, h61, h81, h104] using hQ) | (simpa [uf_at, uf_same, en_F, en_g, en_f, en_l, -Int32.not_lt, -Int32.not_le, h8, h39, h61, h81, h104] using hQ)
    · skip
      refine jj_aload_n 0 dd_Mo_entry_42 rfl ?_
      refine jj_rS (n := 81) hS dd_Mo_entry_43 ff_Mo_60 rfl (fun _ => rfl) rfl ?_
      refine jj_iload_n 1 dd_Mo_entry_46 rfl ?_
      refine jj_aS hS dd_Mo_entry_47 rfl (vp_in_nI (n := t) (by omega) (by decide)) (t) (nI_clamp (n := t) (by omega)) ?_
      refine jj_iconst (v := 1) dd_Mo_entry_48 rfl ?_
      refine jj_isub dd_Mo_entry_49 ?_
      refine jj_goto (tgt := 54) dd_Mo_entry_50 (by decide) ?_
      refine jj_asS hS dd_Mo_entry_54 rfl (vp_in_nI (n := t) (by omega) (by decide)) (t) (nI_clamp (n := t) (by omega)) (fun M hS => ?_)
      refine jj_aload_n 0 dd_Mo_entry_55 rfl ?_
      refine jj_rS (n := 81) hS dd_Mo_entry_56 ff_Mo_60 rfl (fun _ => rfl) rfl ?_
      refine jj_iload_n 1 dd_Mo_entry_59 rfl ?_
      refine jj_aS hS dd_Mo_entry_60 rfl (vp_in_nI (n := t) (by omega) (by decide)) (t) (nI_clamp (n := t) (by omega)) ?_
      refine jj_if_ne (tgt := 68) dd_Mo_entry_61 (by decide) (fun h61 => ?_) (fun h61 => ?_)
      · skip
        refine jj_iconst (v := 0) dd_Mo_entry_68 rfl ?_
        refine jj_istore_n (lv' := [(2, .int (0)), (0, .ref (g 60)), (1, .int (nI (t)))]) dd_Mo_entry_69 (Nat.le_of_ble_eq_true rfl) rfl ?_
        refine jj_aload_n 1 dd_Mo_entry_70 rfl ?_
        refine jj_rS (n := 77) hS dd_Mo_entry_71 ff_Mo_47 rfl (fun _ => rfl) rfl ?_
        refine jj_iload_n 2 dd_Mo_entry_74 rfl ?_
        refine jj_aload_n 1 dd_Mo_entry_75 rfl ?_
        refine jj_rS (n := 77) hS dd_Mo_entry_76 ff_Mo_47 rfl (fun _ => rfl) rfl ?_
        refine jj_iload_n 2 dd_Mo_entry_79 rfl ?_
        refine jj_zS hS dd_Mo_entry_80 rfl (vp_in_nI (n := t) (by omega) (by decide)) (t) (nI_clamp (n := t) (by omega)) ?_
        refine jj_if_ne (tgt := 88) dd_Mo_entry_81 (by decide) (fun h81 => ?_) (fun h81 => ?_)
        · skip
          refine jj_iconst (v := 1) dd_Mo_entry_88 rfl ?_
          refine jj_goto (tgt := 93) dd_Mo_entry_89 (by decide) ?_
          refine jj_zsS hS dd_Mo_entry_93 rfl (vp_in_nI (n := t) (by omega) (by decide)) rfl (t) (nI_clamp (n := t) (by omega)) (fun M hS => ?_)
          refine jj_iload_n 0 dd_Mo_entry_94 rfl ?_
          refine jj_if_eq (tgt := 107) dd_Mo_entry_95 (by decide) (fun _ => ?_) (fun h => absurd h (by decide))
          refine jj_iconst (v := 1) dd_Mo_entry_107 rfl ?_
          refine jj_goto (tgt := 112) dd_Mo_entry_108 (by decide) ?_
          refine jj_istore_n (lv' := [(3, .int (1)), (2, .int (0)), (0, .ref (g 60)), (1, .int (nI (t)))]) dd_Mo_entry_112 (Nat.le_of_ble_eq_true rfl) rfl ?_
          refine jj_aload_n 2 dd_Mo_entry_113 rfl ?_
          refine jj_rS (n := 79) hS dd_Mo_entry_114 ff_Mo_54 rfl (fun _ => rfl) rfl ?_
          refine jj_iload_n 3 dd_Mo_entry_117 rfl ?_
          refine jj_dup2 dd_Mo_entry_118 rfl rfl ?_
          refine jj_aS hS dd_Mo_entry_119 rfl (vp_in_nI (n := t) (by omega) (by decide)) (t) (nI_clamp (n := t) (by omega)) ?_
          refine jj_iload_n 0 dd_Mo_entry_120 rfl ?_
          refine jj_if_eq (tgt := 128) dd_Mo_entry_121 (by decide) (fun h => absurd h (by decide)) (fun _ => ?_)
          refine jj_iconst (v := 1) dd_Mo_entry_124 rfl ?_
          refine jj_goto (tgt := 129) dd_Mo_entry_125 (by decide) ?_
          refine jj_iadd dd_Mo_entry_129 ?_
          refine jj_asS hS dd_Mo_entry_130 rfl (vp_in_nI (n := t) (by omega) (by decide)) (t) (nI_clamp (n := t) (by omega)) (fun M hS => ?_)
          refine jj_iload_n 0 dd_Mo_entry_131 rfl ?_
          refine jj_iret dd_Mo_entry_132 rfl rfl ?_
          refine ⟨_, hS, ?_⟩
          first | (exfalso; simp [uf_at, -Int32.not_lt, -Int32.not_le] at h8 h39 h61 h81; done) | (simp [uf_at, -Int32.not_lt, -Int32.not_le] at h8 h39 h61 h81; simpa [uf_at, uf_same, en_F, en_g, en_f, en_l, -Int32.not_lt, -Int32.not_le, h8, h39, h61, h81] using hQ) | (simpa [uf_at, uf_same, en_F, en_g, en_f, en_l, -Int32.not_lt, -Int32.not_le, h8, h39, h61, h81] using hQ)
        · skip
          refine jj_iload_n 0 dd_Mo_entry_84 rfl ?_
          refine jj_if_eq (tgt := 92) dd_Mo_entry_85 (by decide) (fun _ => ?_) (fun h => absurd h (by decide))
          refine jj_iconst (v := 0) dd_Mo_entry_92 rfl ?_
          refine jj_zsS hS dd_Mo_entry_93 rfl (vp_in_nI (n := t) (by omega) (by decide)) rfl (t) (nI_clamp (n := t) (by omega)) (fun M hS => ?_)
          refine jj_iload_n 0 dd_Mo_entry_94 rfl ?_
          refine jj_if_eq (tgt := 107) dd_Mo_entry_95 (by decide) (fun _ => ?_) (fun h => absurd h (by decide))
          refine jj_iconst (v := 1) dd_Mo_entry_107 rfl ?_
          refine jj_goto (tgt := 112) dd_Mo_entry_108 (by decide) ?_
          refine jj_istore_n (lv' := [(3, .int (1)), (2, .int (0)), (0, .ref (g 60)), (1, .int (nI (t)))]) dd_Mo_entry_112 (Nat.le_of_ble_eq_true rfl) rfl ?_
          refine jj_aload_n 2 dd_Mo_entry_113 rfl ?_
          refine jj_rS (n := 79) hS dd_Mo_entry_114 ff_Mo_54 rfl (fun _ => rfl) rfl ?_
          refine jj_iload_n 3 dd_Mo_entry_117 rfl ?_
          refine jj_dup2 dd_Mo_entry_118 rfl rfl ?_
          refine jj_aS hS dd_Mo_entry_119 rfl (vp_in_nI (n := t) (by omega) (by decide)) (t) (nI_clamp (n := t) (by omega)) ?_
          refine jj_iload_n 0 dd_Mo_entry_120 rfl ?_
          refine jj_if_eq (tgt := 128) dd_Mo_entry_121 (by decide) (fun h => absurd h (by decide)) (fun _ => ?_)
          refine jj_iconst (v := 1) dd_Mo_entry_124 rfl ?_
          refine jj_goto (tgt := 129) dd_Mo_entry_125 (by decide) ?_
          refine jj_iadd dd_Mo_entry_129 ?_
          refine jj_asS hS dd_Mo_entry_130 rfl (vp_in_nI (n := t) (by omega) (by decide)) (t) (nI_clamp (n := t) (by omega)) (fun M hS => ?_)
          refine jj_iload_n 0 dd_Mo_entry_131 rfl ?_
          refine jj_iret dd_Mo_entry_132 rfl rfl ?_
          refine ⟨_, hS, ?_⟩
          first | (exfalso; simp [uf_at, -Int32.not_lt, -Int32.not_le] at h8 h39 h61 h81; done) | (simp [uf_at, -Int32.not_lt, -Int32.not_le] at h8 h39 h61 h81; simpa [uf_at, uf_same, en_F, en_g, en_f, en_l, -Int32.not_lt, -Int32.not_le, h8, h39, h61, h81] using hQ) | (simpa [uf_at, uf_same, en_F, en_g, en_f, en_l, -Int32.not_lt, -Int32.not_le, h8, h39, h61, h81] using hQ)
      · skip
        refine jj_iconst (v := 1) dd_Mo_entry_64 rfl ?_
        refine jj_goto (tgt := 69) dd_Mo_entry_65 (by decide) ?_
        refine jj_istore_n (lv' := [(2, .int (1)), (0, .ref (g 60)), (1, .int (nI (t)))]) dd_Mo_entry_69 (Nat.le_of_ble_eq_true rfl) rfl ?_
        refine jj_aload_n 1 dd_Mo_entry_70 rfl ?_
        refine jj_rS (n := 77) hS dd_Mo_entry_71 ff_Mo_47 rfl (fun _ => rfl) rfl ?_
        refine jj_iload_n 2 dd_Mo_entry_74 rfl ?_
        refine jj_aload_n 1 dd_Mo_entry_75 rfl ?_
        refine jj_rS (n := 77) hS dd_Mo_entry_76 ff_Mo_47 rfl (fun _ => rfl) rfl ?_
        refine jj_iload_n 2 dd_Mo_entry_79 rfl ?_
        refine jj_zS hS dd_Mo_entry_80 rfl (vp_in_nI (n := t) (by omega) (by decide)) (t) (nI_clamp (n := t) (by omega)) ?_
        refine jj_if_ne (tgt := 88) dd_Mo_entry_81 (by decide) (fun h81 => ?_) (fun h81 => ?_)
        · skip
          refine jj_iconst (v := 1) dd_Mo_entry_88 rfl ?_
          refine jj_goto (tgt := 93) dd_Mo_entry_89 (by decide) ?_
          refine jj_zsS hS dd_Mo_entry_93 rfl (vp_in_nI (n := t) (by omega) (by decide)) rfl (t) (nI_clamp (n := t) (by omega)) (fun M hS => ?_)
          refine jj_iload_n 0 dd_Mo_entry_94 rfl ?_
          refine jj_if_eq (tgt := 107) dd_Mo_entry_95 (by decide) (fun h => absurd h (by decide)) (fun _ => ?_)
          refine jj_aload_n 1 dd_Mo_entry_98 rfl ?_
          refine jj_rS (n := 82) hS dd_Mo_entry_99 ff_Mo_63 rfl (fun _ => rfl) rfl ?_
          refine jj_iload_n 2 dd_Mo_entry_102 rfl ?_
          refine jj_zS hS dd_Mo_entry_103 rfl (vp_in_nI (n := t) (by omega) (by decide)) (t) (nI_clamp (n := t) (by omega)) ?_
          refine jj_if_eq (tgt := 111) dd_Mo_entry_104 (by decide) (fun h104 => ?_) (fun h104 => ?_)
          · skip
            refine jj_iconst (v := 0) dd_Mo_entry_111 rfl ?_
            refine jj_istore_n (lv' := [(3, .int (0)), (2, .int (1)), (0, .ref (g 60)), (1, .int (nI (t)))]) dd_Mo_entry_112 (Nat.le_of_ble_eq_true rfl) rfl ?_
            refine jj_aload_n 2 dd_Mo_entry_113 rfl ?_
            refine jj_rS (n := 79) hS dd_Mo_entry_114 ff_Mo_54 rfl (fun _ => rfl) rfl ?_
            refine jj_iload_n 3 dd_Mo_entry_117 rfl ?_
            refine jj_dup2 dd_Mo_entry_118 rfl rfl ?_
            refine jj_aS hS dd_Mo_entry_119 rfl (vp_in_nI (n := t) (by omega) (by decide)) (t) (nI_clamp (n := t) (by omega)) ?_
            refine jj_iload_n 0 dd_Mo_entry_120 rfl ?_
            refine jj_if_eq (tgt := 128) dd_Mo_entry_121 (by decide) (fun _ => ?_) (fun h => absurd h (by decide))
            refine jj_iconst (v := 0) dd_Mo_entry_128 rfl ?_
            refine jj_iadd dd_Mo_entry_129 ?_
            refine jj_asS hS dd_Mo_entry_130 rfl (vp_in_nI (n := t) (by omega) (by decide)) (t) (nI_clamp (n := t) (by omega)) (fun M hS => ?_)
            refine jj_iload_n 0 dd_Mo_entry_131 rfl ?_
            refine jj_iret dd_Mo_entry_132 rfl rfl ?_
            refine ⟨_, hS, ?_⟩
            first | (exfalso; simp [uf_at, -Int32.not_lt, -Int32.not_le] at h8 h39 h61 h81 h104; done) | (simp [uf_at, -Int32.not_lt, -Int32.not_le] at h8 h39 h61 h81 h104; simpa [uf_at, uf_same, en_F, en_g, en_f, en_l, -Int32.not_lt, -Int32.not_le, h8, h39, h61, h81, h104] using hQ) | (simpa [uf_at, uf_same, en_F, en_g, en_f, en_l, -Int32.not_lt, -Int32.not_le, h8, h39, h61, h81, h104] using hQ)
          · skip
            refine jj_iconst (v := 1) dd_Mo_entry_107 rfl ?_
            refine jj_goto (tgt := 112) dd_Mo_entry_108 (by decide) ?_
            refine jj_istore_n (lv' := [(3, .int (1)), (2, .int (1)), (0, .ref (g 60)), (1, .int (nI (t)))]) dd_Mo_entry_112 (Nat.le_of_ble_eq_true rfl) rfl ?_
            refine jj_aload_n 2 dd_Mo_entry_113 rfl ?_
            refine jj_rS (n := 79) hS dd_Mo_entry_114 ff_Mo_54 rfl (fun _ => rfl) rfl ?_
            refine jj_iload_n 3 dd_Mo_entry_117 rfl ?_
            refine jj_dup2 dd_Mo_entry_118 rfl rfl ?_
            refine jj_aS hS dd_Mo_entry_119 rfl (vp_in_nI (n := t) (by omega) (by decide)) (t) (nI_clamp (n := t) (by omega)) ?_
            refine jj_iload_n 0 dd_Mo_entry_120 rfl ?_
            refine jj_if_eq (tgt := 128) dd_Mo_entry_121 (by decide) (fun h => absurd h (by decide)) (fun _ => ?_)
            refine jj_iconst (v := 1) dd_Mo_entry_124 rfl ?_
            refine jj_goto (tgt := 129) dd_Mo_entry_125 (by decide) ?_
            refine jj_iadd dd_Mo_entry_129 ?_
            refine jj_asS hS dd_Mo_entry_130 rfl (vp_in_nI (n := t) (by omega) (by decide)) (t) (nI_clamp (n := t) (by omega)) (fun M hS => ?_)
            refine jj_iload_n 0 dd_Mo_entry_131 rfl ?_
            refine jj_iret dd_Mo_entry_132 rfl rfl ?_
            refine ⟨_, hS, ?_⟩
            first | (exfalso; simp [uf_at, -Int32.not_lt, -Int32.not_le] at h8 h39 h61 h81 h104; done) | (simp [uf_at, -Int32.not_lt, -Int32.not_le] at h8 h39 h61 h81 h104; simpa [uf_at, uf_same, en_F, en_g, en_f, en_l, -Int32.not_lt, -Int32.not_le, h8, h39, h61, h81, h104] using hQ) | (simpa [uf_at, uf_same, en_F, en_g, en_f, en_l, -Int32.not_lt, -Int32.not_le, h8, h39, h61, h81, h104] using hQ)
        · skip
          refine jj_iload_n 0 dd_Mo_entry_84 rfl ?_
          refine jj_if_eq (tgt := 92) dd_Mo_entry_85 (by decide) (fun h => absurd h (by decide)) (fun _ => ?_)
          refine jj_iconst (v := 1) dd_Mo_entry_88 rfl ?_
          refine jj_goto (tgt := 93) dd_Mo_entry_89 (by decide) ?_
          refine jj_zsS hS dd_Mo_entry_93 rfl (vp_in_nI (n := t) (by omega) (by decide)) rfl (t) (nI_clamp (n := t) (by omega)) (fun M hS => ?_)
          refine jj_iload_n 0 dd_Mo_entry_94 rfl ?_
          refine jj_if_eq (tgt := 107) dd_Mo_entry_95 (by decide) (fun h => absurd h (by decide)) (fun _ => ?_)
          refine jj_aload_n 1 dd_Mo_entry_98 rfl ?_
          refine jj_rS (n := 82) hS dd_Mo_entry_99 ff_Mo_63 rfl (fun _ => rfl) rfl ?_
          refine jj_iload_n 2 dd_Mo_entry_102 rfl ?_
          refine jj_zS hS dd_Mo_entry_103 rfl (vp_in_nI (n := t) (by omega) (by decide)) (t) (nI_clamp (n := t) (by omega)) ?_
          refine jj_if_eq (tgt := 111) dd_Mo_entry_104 (by decide) (fun h104 => ?_) (fun h104 => ?_)
          · skip
            refine jj_iconst (v := 0) dd_Mo_entry_111 rfl ?_
            refine jj_istore_n (lv' := [(3, .int (0)), (2, .int (1)), (0, .ref (g 60)), (1, .int (nI (t)))]) dd_Mo_entry_112 (Nat.le_of_ble_eq_true rfl) rfl ?_
            refine jj_aload_n 2 dd_Mo_entry_113 rfl ?_
            refine jj_rS (n := 79) hS dd_Mo_entry_114 ff_Mo_54 rfl (fun _ => rfl) rfl ?_
            refine jj_iload_n 3 dd_Mo_entry_117 rfl ?_
            refine jj_dup2 dd_Mo_entry_118 rfl rfl ?_
            refine jj_aS hS dd_Mo_entry_119 rfl (vp_in_nI (n := t) (by omega) (by decide)) (t) (nI_clamp (n := t) (by omega)) ?_
            refine jj_iload_n 0 dd_Mo_entry_120 rfl ?_
            refine jj_if_eq (tgt := 128) dd_Mo_entry_121 (by decide) (fun _ => ?_) (fun h => absurd h (by decide))
            refine jj_iconst (v := 0) dd_Mo_entry_128 rfl ?_
            refine jj_iadd dd_Mo_entry_129 ?_
            refine jj_asS hS dd_Mo_entry_130 rfl (vp_in_nI (n := t) (by omega) (by decide)) (t) (nI_clamp (n := t) (by omega)) (fun M hS => ?_)
            refine jj_iload_n 0 dd_Mo_entry_131 rfl ?_
            refine jj_iret dd_Mo_entry_132 rfl rfl ?_
            refine ⟨_, hS, ?_⟩
            first | (exfalso; simp [uf_at, -Int32.not_lt, -Int32.not_le] at h8 h39 h61 h81 h104; done) | (simp [uf_at, -Int32.not_lt, -Int32.not_le] at h8 h39 h61 h81 h104; simpa [uf_at, uf_same, en_F, en_g, en_f, en_l, -Int32.not_lt, -Int32.not_le, h8, h39, h61, h81, h104] using hQ) | (simpa [uf_at, uf_same, en_F, en_g, en_f, en_l, -Int32.not_lt, -Int32.not_le, h8, h39, h61, h81, h104] using hQ)
          · skip
            refine jj_iconst (v := 1) dd_Mo_entry_107 rfl ?_
            refine jj_goto (tgt := 112) dd_Mo_entry_108 (by decide) ?_
            refine jj_istore_n (lv' := [(3, .int (1)), (2, .int (1)), (0, .ref (g 60)), (1, .int (nI (t)))]) dd_Mo_entry_112 (Nat.le_of_ble_eq_true rfl) rfl ?_
            refine jj_aload_n 2 dd_Mo_entry_113 rfl ?_
            refine jj_rS (n := 79) hS dd_Mo_entry_114 ff_Mo_54 rfl (fun _ => rfl) rfl ?_
            refine jj_iload_n 3 dd_Mo_entry_117 rfl ?_
            refine jj_dup2 dd_Mo_entry_118 rfl rfl ?_
            refine jj_aS hS dd_Mo_entry_119 rfl (vp_in_nI (n := t) (by omega) (by decide)) (t) (nI_clamp (n := t) (by omega)) ?_
            refine jj_iload_n 0 dd_Mo_entry_120 rfl ?_
            refine jj_if_eq (tgt := 128) dd_Mo_entry_121 (by decide) (fun h => absurd h (by decide)) (fun _ => ?_)
            refine jj_iconst (v := 1) dd_Mo_entry_124 rfl ?_
            refine jj_goto (tgt := 129) dd_Mo_entry_125 (by decide) ?_
            refine jj_iadd dd_Mo_entry_129 ?_
            refine jj_asS hS dd_Mo_entry_130 rfl (vp_in_nI (n := t) (by omega) (by decide)) (t) (nI_clamp (n := t) (by omega)) (fun M hS => ?_)
            refine jj_iload_n 0 dd_Mo_entry_131 rfl ?_
            refine jj_iret dd_Mo_entry_132 rfl rfl ?_
            refine ⟨_, hS, ?_⟩
            first | (exfalso; simp [uf_at, -Int32.not_lt, -Int32.not_le] at h8 h39 h61 h81 h104; done) | (simp [uf_at, -Int32.not_lt, -Int32.not_le] at h8 h39 h61 h81 h104; simpa [uf_at, uf_same, en_F, en_g, en_f, en_l, -Int32.not_lt, -Int32.not_le, h8, h39, h61, h81, h104] using hQ) | (simpa [uf_at, uf_same, en_F, en_g, en_f, en_l, -Int32.not_lt, -Int32.not_le, h8, h39, h61, h81, h104] using hQ)
def pu_F (F : Nat → Nat → Int32) (r : Nat) (x1 x2 x3 x4 x5 : Int32) : Nat → Nat → Int32 := uf_ (uf_ (uf_ (uf_ (uf_ (uf_ F 72 r x1) 73 r x2) 74 r x3) 75 r x4) 76 r x5) 60 11 (F 60 11 + 1)
set_option maxRecDepth 20000 in
theorem cs_Mo_put {l : Launch} {g : Nat → Nat} {S : ss_} {Q : Option Value → ss_ → Prop} {r : Nat} {x1 x2 x3 x4 x5 : Int32} (hr : S.1 60 11 = nI r) (hr2 : r < 1540) (hQ : Q none (pu_F S.1 r x1 x2 x3 x4 x5, S.2)) : cs_ l yy_Mo_put bb_Mo_put 6 none 0 0 0 g [.ref (g 60), .int x1, .int x2, .int x3, .int x4, .int x5] S Q := by
  intro M hS
  refine ct_of (by decide) (Nat.le_of_ble_eq_true rfl) (fun G A => ?_)
  refine jj_aload_n 0 dd_Mo_put_0 rfl ?_
  refine jj_rS (n := 72) hS dd_Mo_put_1 ff_Mo_32 rfl (fun _ => rfl) rfl ?_
  refine jj_aload_n 0 dd_Mo_put_4 rfl ?_
  refine jj_gS hS dd_Mo_put_5 ff_Mo_99 rfl (fun _ => rfl) ?_
  refine jj_ti (x' := nI (r)) hr ?_
  refine jj_iload_n 1 dd_Mo_put_8 rfl ?_
  refine jj_asS hS dd_Mo_put_9 rfl (vp_in_nI (n := r) (by omega) (by decide)) (r) (nI_clamp (n := r) (by omega)) (fun M hS => ?_)
  refine jj_aload_n 0 dd_Mo_put_10 rfl ?_
  refine jj_rS (n := 73) hS dd_Mo_put_11 ff_Mo_35 rfl (fun _ => rfl) rfl ?_
  refine jj_aload_n 0 dd_Mo_put_14 rfl ?_
  refine jj_gS hS dd_Mo_put_15 ff_Mo_99 rfl (fun _ => rfl) ?_
  refine jj_ti (x' := nI (r)) (by simpa [uf_at] using hr) ?_
  refine jj_iload_n 2 dd_Mo_put_18 rfl ?_
  refine jj_asS hS dd_Mo_put_19 rfl (vp_in_nI (n := r) (by omega) (by decide)) (r) (nI_clamp (n := r) (by omega)) (fun M hS => ?_)
  refine jj_aload_n 0 dd_Mo_put_20 rfl ?_
  refine jj_rS (n := 74) hS dd_Mo_put_21 ff_Mo_38 rfl (fun _ => rfl) rfl ?_
  refine jj_aload_n 0 dd_Mo_put_24 rfl ?_
  refine jj_gS hS dd_Mo_put_25 ff_Mo_99 rfl (fun _ => rfl) ?_
  refine jj_ti (x' := nI (r)) (by simpa [uf_at] using hr) ?_
  refine jj_iload_n 3 dd_Mo_put_28 rfl ?_
  refine jj_asS hS dd_Mo_put_29 rfl (vp_in_nI (n := r) (by omega) (by decide)) (r) (nI_clamp (n := r) (by omega)) (fun M hS => ?_)
  refine jj_aload_n 0 dd_Mo_put_30 rfl ?_
  refine jj_rS (n := 75) hS dd_Mo_put_31 ff_Mo_41 rfl (fun _ => rfl) rfl ?_
  refine jj_aload_n 0 dd_Mo_put_34 rfl ?_
  refine jj_gS hS dd_Mo_put_35 ff_Mo_99 rfl (fun _ => rfl) ?_
  refine jj_ti (x' := nI (r)) (by simpa [uf_at] using hr) ?_
  refine jj_iload 4 dd_Mo_put_38 rfl ?_
  refine jj_asS hS dd_Mo_put_40 rfl (vp_in_nI (n := r) (by omega) (by decide)) (r) (nI_clamp (n := r) (by omega)) (fun M hS => ?_)
  refine jj_aload_n 0 dd_Mo_put_41 rfl ?_
  refine jj_rS (n := 76) hS dd_Mo_put_42 ff_Mo_44 rfl (fun _ => rfl) rfl ?_
  refine jj_aload_n 0 dd_Mo_put_45 rfl ?_
  refine jj_gS hS dd_Mo_put_46 ff_Mo_99 rfl (fun _ => rfl) ?_
  refine jj_ti (x' := nI (r)) (by simpa [uf_at] using hr) ?_
  refine jj_iload 5 dd_Mo_put_49 rfl ?_
  refine jj_asS hS dd_Mo_put_51 rfl (vp_in_nI (n := r) (by omega) (by decide)) (r) (nI_clamp (n := r) (by omega)) (fun M hS => ?_)
  refine jj_aload_n 0 dd_Mo_put_52 rfl ?_
  refine jj_dup dd_Mo_put_53 rfl ?_
  refine jj_gS hS dd_Mo_put_54 ff_Mo_99 rfl (fun _ => rfl) ?_
  refine jj_iconst (v := 1) dd_Mo_put_57 rfl ?_
  refine jj_iadd dd_Mo_put_58 ?_
  refine jj_pS hS dd_Mo_put_59 ⟨ff_Mo_99, rfl⟩ rfl (fun _ => rfl) ⟨rfl, rfl⟩ (fun M hS => ?_)
  refine jj_vret dd_Mo_put_62 rfl ?_
  refine ⟨_, hS, ?_⟩
  simpa [uf_at, pu_F] using hQ
def ls_ (F : Nat → Nat → Int32) (i c : Nat) : Int32 := if ¬ F 83 c = 0 ∧ F 84 c = F 65 i ∧ F 60 2 - F 68 i < F 60 0 then 0 else 1
set_option maxRecDepth 20000 in
theorem cs_Mo_loose {l : Launch} {g : Nat → Nat} {S : ss_} {Q : Option Value → ss_ → Prop} {i c : Nat} (hi : i < 12) (hc : S.1 67 i = nI c) (hc2 : c < 4) (hQ : Q (some (.int (ls_ S.1 i c))) S) : cs_ l yy_Mo_loose bb_Mo_loose 3 (some .boolean) 0 0 0 g [.ref (g 60), .int (nI i)] S Q := by
  intro M hS
  refine ct_of (by decide) (Nat.le_of_ble_eq_true rfl) (fun G A => ?_)
  refine jj_aload_n 0 dd_Mo_loose_0 rfl ?_
  refine jj_rS (n := 67) hS dd_Mo_loose_1 ff_Mo_20 rfl (fun _ => rfl) rfl ?_
  refine jj_iload_n 1 dd_Mo_loose_4 rfl ?_
  refine jj_aS hS dd_Mo_loose_5 rfl (vp_in_nI (n := i) (by omega) (by decide)) (i) (nI_clamp (n := i) (by omega)) ?_
  refine jj_ti (x' := nI (c)) hc ?_
  refine jj_istore_n (lv' := [(2, .int (nI (c))), (0, .ref (g 60)), (1, .int (nI (i)))]) dd_Mo_loose_6 (Nat.le_of_ble_eq_true rfl) rfl ?_
  refine jj_aload_n 1 dd_Mo_loose_7 rfl ?_
  refine jj_rS (n := 83) hS dd_Mo_loose_8 ff_Mo_66 rfl (fun _ => rfl) rfl ?_
  refine jj_iload_n 0 dd_Mo_loose_11 rfl ?_
  refine jj_aS hS dd_Mo_loose_12 rfl (vp_in_nI (n := c) (by omega) (by decide)) (c) (nI_clamp (n := c) (by omega)) ?_
  refine jj_if_eq (tgt := 49) dd_Mo_loose_13 (by decide) (fun h13 => ?_) (fun h13 => ?_)
  · skip
    refine jj_iconst (v := 1) dd_Mo_loose_49 rfl ?_
    refine jj_goto (tgt := 54) dd_Mo_loose_50 (by decide) ?_
    refine jj_iret dd_Mo_loose_54 rfl rfl ?_
    refine ⟨_, hS, ?_⟩
    simpa [ls_, -Int32.not_lt, -Int32.not_le, h13] using hQ
  · skip
    refine jj_aload_n 1 dd_Mo_loose_16 rfl ?_
    refine jj_rS (n := 84) hS dd_Mo_loose_17 ff_Mo_69 rfl (fun _ => rfl) rfl ?_
    refine jj_iload_n 0 dd_Mo_loose_20 rfl ?_
    refine jj_aS hS dd_Mo_loose_21 rfl (vp_in_nI (n := c) (by omega) (by decide)) (c) (nI_clamp (n := c) (by omega)) ?_
    refine jj_aload_n 1 dd_Mo_loose_22 rfl ?_
    refine jj_rS (n := 65) hS dd_Mo_loose_23 ff_Mo_13 rfl (fun _ => rfl) rfl ?_
    refine jj_iload_n 2 dd_Mo_loose_26 rfl ?_
    refine jj_aS hS dd_Mo_loose_27 rfl (vp_in_nI (n := i) (by omega) (by decide)) (i) (nI_clamp (n := i) (by omega)) ?_
    refine jj_icmp_ne (tgt := 49) dd_Mo_loose_28 (by decide) (fun h28 => ?_) (fun h28 => ?_)
    · skip
      refine jj_iconst (v := 1) dd_Mo_loose_49 rfl ?_
      refine jj_goto (tgt := 54) dd_Mo_loose_50 (by decide) ?_
      refine jj_iret dd_Mo_loose_54 rfl rfl ?_
      refine ⟨_, hS, ?_⟩
      simpa [ls_, -Int32.not_lt, -Int32.not_le, h13, h28] using hQ
    · skip
      refine jj_aload_n 1 dd_Mo_loose_31 rfl ?_
      refine jj_gS hS dd_Mo_loose_32 ff_Mo_110 rfl (fun _ => rfl) ?_
      refine jj_aload_n 1 dd_Mo_loose_35 rfl ?_
      refine jj_rS (n := 68) hS dd_Mo_loose_36 ff_Mo_23 rfl (fun _ => rfl) rfl ?_
      refine jj_iload_n 2 dd_Mo_loose_39 rfl ?_
      refine jj_aS hS dd_Mo_loose_40 rfl (vp_in_nI (n := i) (by omega) (by decide)) (i) (nI_clamp (n := i) (by omega)) ?_
      refine jj_isub dd_Mo_loose_41 ?_
      refine jj_aload_n 1 dd_Mo_loose_42 rfl ?_
      refine jj_gS hS dd_Mo_loose_43 ff_Mo_90 rfl (fun _ => rfl) ?_
      refine jj_icmp_lt (tgt := 53) dd_Mo_loose_46 (by decide) (fun h46 => ?_) (fun h46 => ?_)
      · skip
        refine jj_iconst (v := 0) dd_Mo_loose_53 rfl ?_
        refine jj_iret dd_Mo_loose_54 rfl rfl ?_
        refine ⟨_, hS, ?_⟩
        simpa [ls_, -Int32.not_lt, -Int32.not_le, h13, h28, h46] using hQ
      · skip
        refine jj_iconst (v := 1) dd_Mo_loose_49 rfl ?_
        refine jj_goto (tgt := 54) dd_Mo_loose_50 (by decide) ?_
        refine jj_iret dd_Mo_loose_54 rfl rfl ?_
        refine ⟨_, hS, ?_⟩
        simpa [ls_, -Int32.not_lt, -Int32.not_le, h13, h28, h46] using hQ
end
section
def rec_ (F : Nat → Nat → Int32) : Nat := (F 60 11).toNatClampNeg
def dn_F (F : Nat → Nat → Int32) (i : Nat) (w : Int32) : Nat → Nat → Int32 := if en_g F (i / 4) = 0 then en_F F (i / 4) else uf_ (pu_F (en_F F (i / 4)) (rec_ F) (nI i) w (F 65 i) (F 69 i) (F 70 i)) 65 i 0
def vo_F (F : Nat → Nat → Int32) (i : Nat) (x : Int32) : Nat → Nat → Int32 := if en_g F (i / 4) = 0 then en_F F (i / 4) else uf_ (pu_F (en_F F (i / 4)) (rec_ F) (nI i) x x 3 0) 65 i (if F 65 i = x then 0 else F 65 i)
def lo_F (F : Nat → Nat → Int32) (c i : Nat) (p : Int32) : Nat → Nat → Int32 := if en_g F (i / 4) = 0 then en_F F (i / 4) else uf_ (uf_ (uf_ (uf_ (uf_ (uf_ (en_F F (i / 4)) 65 i (F 84 c)) 66 i p) 67 i (nI c)) 68 i (F 60 2)) 69 i (F 87 (12 * c + i))) 70 i (F 88 (12 * c + i))
def dn_r (F : Nat → Nat → Int32) (i : Nat) (w : Int32) : Int32 := if dn_F F i w 77 (i / 4) = 0 then 1 else 0
def vo_r (F : Nat → Nat → Int32) (i : Nat) (x : Int32) : Int32 := if vo_F F i x 77 (i / 4) = 0 then 1 else 0
def lo_r (F : Nat → Nat → Int32) (c i : Nat) (p : Int32) : Int32 := if lo_F F c i p 77 (i / 4) = 0 then 1 else 0
theorem en_oth (F : Nat → Nat → Int32) (t n j : Nat) (h : n < 77 ∨ 82 < n ∨ n = 78 ∨ n = 82) : en_F F t n j = F n j := by
  have h1 : ¬ (n = 79 ∧ j = t) := by omega
  have h2 : ¬ (n = 80 ∧ j = t) := by omega
  have h3 : ¬ (n = 81 ∧ j = t) := by omega
  have h4 : ¬ (n = 77 ∧ j = t) := by omega
  simp [en_F, uf_at, h1, h2, h3, h4]
set_option maxRecDepth 20000 in
theorem cs_Mo_done {l : Launch} {g : Nat → Nat} {S : ss_} {Q : Option Value → ss_ → Prop} {i : Nat} {w : Int32} (hi : i < 12) (hr : S.1 60 11 = nI (rec_ S.1)) (hr2 : rec_ S.1 < 1540) (hQ : Q (some (.int (dn_r S.1 i w))) (dn_F S.1 i w, S.2)) : cs_ l yy_Mo_done bb_Mo_done 4 (some .boolean) 1 0 0 g [.ref (g 60), .int (nI i), .int w] S Q := by
  intro M hS
  refine ct_of (by decide) (Nat.le_of_ble_eq_true rfl) (fun G A => ?_)
  refine jj_aload_n 0 dd_Mo_done_0 rfl ?_
  refine jj_iload_n 1 dd_Mo_done_1 rfl ?_
  refine jj_iconst (v := 4) dd_Mo_done_2 rfl ?_
  refine jj_idiv dd_Mo_done_3 (by decide) ?_
  refine jj_ti (x' := nI ((i) / 4)) (pk_div (a := i) (d := 4) (by omega) (by decide) (by decide)) ?_
  refine jj_callV (ci := 7) [_] [] 0 0 dd_Mo_done_4 cs_Mo_102 ci_Mo_102 (hS.1.1 60 _ rfl) ⟨by decide, rfl⟩ rfl (Nat.le_of_ble_eq_true rfl) ⟨(Nat.le_of_ble_eq_true rfl), (Nat.le_of_ble_eq_true rfl)⟩ ⟨(Nat.le_of_ble_eq_true rfl), (Nat.le_of_ble_eq_true rfl)⟩ rfl (cs_use (cs_Mo_entry (t := i / 4) (by omega) (fun M hS => ?_)) hS)
  refine jj_istore_n (lv' := [(3, .int _), (0, .ref (g 60)), (1, .int (nI (i))), (2, .int _)]) dd_Mo_done_7 (Nat.le_of_ble_eq_true rfl) rfl ?_
  refine jj_iload_n 0 dd_Mo_done_8 rfl ?_
  refine jj_if_eq (tgt := 43) dd_Mo_done_9 (by decide) (fun h9 => ?_) (fun h9 => ?_)
  · skip
    refine jj_aload_n 1 dd_Mo_done_43 rfl ?_
    refine jj_rS (n := 77) hS dd_Mo_done_44 ff_Mo_47 rfl (fun _ => rfl) rfl ?_
    refine jj_iload_n 2 dd_Mo_done_47 rfl ?_
    refine jj_iconst (v := 4) dd_Mo_done_48 rfl ?_
    refine jj_idiv dd_Mo_done_49 (by decide) ?_
    refine jj_ti (x' := nI ((i) / 4)) (pk_div (a := i) (d := 4) (by omega) (by decide) (by decide)) ?_
    refine jj_zS hS dd_Mo_done_50 rfl (vp_in_nI (n := (i) / 4) (by omega) (by decide)) ((i) / 4) (nI_clamp (n := (i) / 4) (by omega)) ?_
    refine jj_if_ne (tgt := 58) dd_Mo_done_51 (by decide) (fun h51 => ?_) (fun h51 => ?_)
    · skip
      refine jj_iconst (v := 0) dd_Mo_done_58 rfl ?_
      refine jj_iret dd_Mo_done_59 rfl rfl ?_
      refine ⟨_, hS, ?_⟩
      try simp [uf_at, pu_F, en_oth, -Int32.not_lt, -Int32.not_le] at h9 h51
      simpa [uf_at, pu_F, en_oth, dn_F, dn_r, -Int32.not_lt, -Int32.not_le, h9, h51] using hQ
    · skip
      refine jj_iconst (v := 1) dd_Mo_done_54 rfl ?_
      refine jj_goto (tgt := 59) dd_Mo_done_55 (by decide) ?_
      refine jj_iret dd_Mo_done_59 rfl rfl ?_
      refine ⟨_, hS, ?_⟩
      try simp [uf_at, pu_F, en_oth, -Int32.not_lt, -Int32.not_le] at h9 h51
      simpa [uf_at, pu_F, en_oth, dn_F, dn_r, -Int32.not_lt, -Int32.not_le, h9, h51] using hQ
  · skip
    refine jj_aload_n 1 dd_Mo_done_12 rfl ?_
    refine jj_iload_n 2 dd_Mo_done_13 rfl ?_
    refine jj_iload_n 3 dd_Mo_done_14 rfl ?_
    refine jj_aload_n 1 dd_Mo_done_15 rfl ?_
    refine jj_rS (n := 65) hS dd_Mo_done_16 ff_Mo_13 rfl (fun _ => rfl) rfl ?_
    refine jj_iload_n 2 dd_Mo_done_19 rfl ?_
    refine jj_aS hS dd_Mo_done_20 rfl (vp_in_nI (n := i) (by omega) (by decide)) (i) (nI_clamp (n := i) (by omega)) ?_
    refine jj_aload_n 1 dd_Mo_done_21 rfl ?_
    refine jj_rS (n := 69) hS dd_Mo_done_22 ff_Mo_26 rfl (fun _ => rfl) rfl ?_
    refine jj_iload_n 2 dd_Mo_done_25 rfl ?_
    refine jj_aS hS dd_Mo_done_26 rfl (vp_in_nI (n := i) (by omega) (by decide)) (i) (nI_clamp (n := i) (by omega)) ?_
    refine jj_aload_n 1 dd_Mo_done_27 rfl ?_
    refine jj_rS (n := 70) hS dd_Mo_done_28 ff_Mo_29 rfl (fun _ => rfl) rfl ?_
    refine jj_iload_n 2 dd_Mo_done_31 rfl ?_
    refine jj_aS hS dd_Mo_done_32 rfl (vp_in_nI (n := i) (by omega) (by decide)) (i) (nI_clamp (n := i) (by omega)) ?_
    refine jj_callV (ci := 7) [_, _, _, _, _] [] 0 0 dd_Mo_done_33 cs_Mo_106 ci_Mo_106 (hS.1.1 60 _ rfl) ⟨by decide, rfl⟩ rfl (Nat.le_of_ble_eq_true rfl) ⟨(Nat.le_of_ble_eq_true rfl), (Nat.le_of_ble_eq_true rfl)⟩ ⟨(Nat.le_of_ble_eq_true rfl), (Nat.le_of_ble_eq_true rfl)⟩ rfl (cs_use (cs_Mo_put (S := (en_F S.1 (i / 4), S.2)) (r := rec_ S.1) ((en_oth S.1 (i / 4) 60 11 (by omega)).trans hr) hr2 (fun M hS => ?_)) hS)
    refine jj_aload_n 1 dd_Mo_done_36 rfl ?_
    refine jj_rS (n := 65) hS dd_Mo_done_37 ff_Mo_13 rfl (fun _ => rfl) rfl ?_
    refine jj_iload_n 2 dd_Mo_done_40 rfl ?_
    refine jj_iconst (v := 0) dd_Mo_done_41 rfl ?_
    refine jj_asS hS dd_Mo_done_42 rfl (vp_in_nI (n := i) (by omega) (by decide)) (i) (nI_clamp (n := i) (by omega)) (fun M hS => ?_)
    refine jj_aload_n 1 dd_Mo_done_43 rfl ?_
    refine jj_rS (n := 77) hS dd_Mo_done_44 ff_Mo_47 rfl (fun _ => rfl) rfl ?_
    refine jj_iload_n 2 dd_Mo_done_47 rfl ?_
    refine jj_iconst (v := 4) dd_Mo_done_48 rfl ?_
    refine jj_idiv dd_Mo_done_49 (by decide) ?_
    refine jj_ti (x' := nI ((i) / 4)) (pk_div (a := i) (d := 4) (by omega) (by decide) (by decide)) ?_
    refine jj_zS hS dd_Mo_done_50 rfl (vp_in_nI (n := (i) / 4) (by omega) (by decide)) ((i) / 4) (nI_clamp (n := (i) / 4) (by omega)) ?_
    refine jj_if_ne (tgt := 58) dd_Mo_done_51 (by decide) (fun h51 => ?_) (fun h51 => ?_)
    · skip
      refine jj_iconst (v := 0) dd_Mo_done_58 rfl ?_
      refine jj_iret dd_Mo_done_59 rfl rfl ?_
      refine ⟨_, hS, ?_⟩
      try simp [uf_at, pu_F, en_oth, -Int32.not_lt, -Int32.not_le] at h9 h51
      simpa [uf_at, pu_F, en_oth, dn_F, dn_r, -Int32.not_lt, -Int32.not_le, h9, h51] using hQ
    · skip
      refine jj_iconst (v := 1) dd_Mo_done_54 rfl ?_
      refine jj_goto (tgt := 59) dd_Mo_done_55 (by decide) ?_
      refine jj_iret dd_Mo_done_59 rfl rfl ?_
      refine ⟨_, hS, ?_⟩
      try simp [uf_at, pu_F, en_oth, -Int32.not_lt, -Int32.not_le] at h9 h51
      simpa [uf_at, pu_F, en_oth, dn_F, dn_r, -Int32.not_lt, -Int32.not_le, h9, h51] using hQ
set_option maxRecDepth 20000 in
theorem cs_Mo_voids {l : Launch} {g : Nat → Nat} {S : ss_} {Q : Option Value → ss_ → Prop} {i : Nat} {x : Int32} (hi : i < 12) (hr : S.1 60 11 = nI (rec_ S.1)) (hr2 : rec_ S.1 < 1540) (hQ : Q (some (.int (vo_r S.1 i x))) (vo_F S.1 i x, S.2)) : cs_ l yy_Mo_voids bb_Mo_voids 4 (some .boolean) 1 0 0 g [.ref (g 60), .int (nI i), .int x] S Q := by
  intro M hS
  refine ct_of (by decide) (Nat.le_of_ble_eq_true rfl) (fun G A => ?_)
  refine jj_aload_n 0 dd_Mo_voids_0 rfl ?_
  refine jj_iload_n 1 dd_Mo_voids_1 rfl ?_
  refine jj_iconst (v := 4) dd_Mo_voids_2 rfl ?_
  refine jj_idiv dd_Mo_voids_3 (by decide) ?_
  refine jj_ti (x' := nI ((i) / 4)) (pk_div (a := i) (d := 4) (by omega) (by decide) (by decide)) ?_
  refine jj_callV (ci := 7) [_] [] 0 0 dd_Mo_voids_4 cs_Mo_102 ci_Mo_102 (hS.1.1 60 _ rfl) ⟨by decide, rfl⟩ rfl (Nat.le_of_ble_eq_true rfl) ⟨(Nat.le_of_ble_eq_true rfl), (Nat.le_of_ble_eq_true rfl)⟩ ⟨(Nat.le_of_ble_eq_true rfl), (Nat.le_of_ble_eq_true rfl)⟩ rfl (cs_use (cs_Mo_entry (t := i / 4) (by omega) (fun M hS => ?_)) hS)
  refine jj_istore_n (lv' := [(3, .int _), (0, .ref (g 60)), (1, .int (nI (i))), (2, .int _)]) dd_Mo_voids_7 (Nat.le_of_ble_eq_true rfl) rfl ?_
  refine jj_iload_n 0 dd_Mo_voids_8 rfl ?_
  refine jj_if_eq (tgt := 47) dd_Mo_voids_9 (by decide) (fun h9 => ?_) (fun h9 => ?_)
  · skip
    refine jj_aload_n 1 dd_Mo_voids_47 rfl ?_
    refine jj_rS (n := 77) hS dd_Mo_voids_48 ff_Mo_47 rfl (fun _ => rfl) rfl ?_
    refine jj_iload_n 2 dd_Mo_voids_51 rfl ?_
    refine jj_iconst (v := 4) dd_Mo_voids_52 rfl ?_
    refine jj_idiv dd_Mo_voids_53 (by decide) ?_
    refine jj_ti (x' := nI ((i) / 4)) (pk_div (a := i) (d := 4) (by omega) (by decide) (by decide)) ?_
    refine jj_zS hS dd_Mo_voids_54 rfl (vp_in_nI (n := (i) / 4) (by omega) (by decide)) ((i) / 4) (nI_clamp (n := (i) / 4) (by omega)) ?_
    refine jj_if_ne (tgt := 62) dd_Mo_voids_55 (by decide) (fun h55 => ?_) (fun h55 => ?_)
    · skip
      refine jj_iconst (v := 0) dd_Mo_voids_62 rfl ?_
      refine jj_iret dd_Mo_voids_63 rfl rfl ?_
      refine ⟨_, hS, ?_⟩
      try simp [uf_at, pu_F, en_oth, -Int32.not_lt, -Int32.not_le] at h9 h55
      simpa [uf_at, pu_F, en_oth, vo_F, vo_r, -Int32.not_lt, -Int32.not_le, h9, h55] using hQ
    · skip
      refine jj_iconst (v := 1) dd_Mo_voids_58 rfl ?_
      refine jj_goto (tgt := 63) dd_Mo_voids_59 (by decide) ?_
      refine jj_iret dd_Mo_voids_63 rfl rfl ?_
      refine ⟨_, hS, ?_⟩
      try simp [uf_at, pu_F, en_oth, -Int32.not_lt, -Int32.not_le] at h9 h55
      simpa [uf_at, pu_F, en_oth, vo_F, vo_r, -Int32.not_lt, -Int32.not_le, h9, h55] using hQ
  · skip
    refine jj_aload_n 1 dd_Mo_voids_12 rfl ?_
    refine jj_iload_n 2 dd_Mo_voids_13 rfl ?_
    refine jj_iload_n 3 dd_Mo_voids_14 rfl ?_
    refine jj_iload_n 3 dd_Mo_voids_15 rfl ?_
    refine jj_iconst (v := 3) dd_Mo_voids_16 rfl ?_
    refine jj_iconst (v := 0) dd_Mo_voids_17 rfl ?_
    refine jj_callV (ci := 7) [_, _, _, _, _] [] 0 0 dd_Mo_voids_18 cs_Mo_106 ci_Mo_106 (hS.1.1 60 _ rfl) ⟨by decide, rfl⟩ rfl (Nat.le_of_ble_eq_true rfl) ⟨(Nat.le_of_ble_eq_true rfl), (Nat.le_of_ble_eq_true rfl)⟩ ⟨(Nat.le_of_ble_eq_true rfl), (Nat.le_of_ble_eq_true rfl)⟩ rfl (cs_use (cs_Mo_put (S := (en_F S.1 (i / 4), S.2)) (r := rec_ S.1) ((en_oth S.1 (i / 4) 60 11 (by omega)).trans hr) hr2 (fun M hS => ?_)) hS)
    refine jj_aload_n 1 dd_Mo_voids_21 rfl ?_
    refine jj_rS (n := 65) hS dd_Mo_voids_22 ff_Mo_13 rfl (fun _ => rfl) rfl ?_
    refine jj_iload_n 2 dd_Mo_voids_25 rfl ?_
    refine jj_aload_n 1 dd_Mo_voids_26 rfl ?_
    refine jj_rS (n := 65) hS dd_Mo_voids_27 ff_Mo_13 rfl (fun _ => rfl) rfl ?_
    refine jj_iload_n 2 dd_Mo_voids_30 rfl ?_
    refine jj_aS hS dd_Mo_voids_31 rfl (vp_in_nI (n := i) (by omega) (by decide)) (i) (nI_clamp (n := i) (by omega)) ?_
    refine jj_iload_n 3 dd_Mo_voids_32 rfl ?_
    refine jj_icmp_ne (tgt := 40) dd_Mo_voids_33 (by decide) (fun h33 => ?_) (fun h33 => ?_)
    · skip
      refine jj_aload_n 1 dd_Mo_voids_40 rfl ?_
      refine jj_rS (n := 65) hS dd_Mo_voids_41 ff_Mo_13 rfl (fun _ => rfl) rfl ?_
      refine jj_iload_n 2 dd_Mo_voids_44 rfl ?_
      refine jj_aS hS dd_Mo_voids_45 rfl (vp_in_nI (n := i) (by omega) (by decide)) (i) (nI_clamp (n := i) (by omega)) ?_
      refine jj_asS hS dd_Mo_voids_46 rfl (vp_in_nI (n := i) (by omega) (by decide)) (i) (nI_clamp (n := i) (by omega)) (fun M hS => ?_)
      refine jj_aload_n 1 dd_Mo_voids_47 rfl ?_
      refine jj_rS (n := 77) hS dd_Mo_voids_48 ff_Mo_47 rfl (fun _ => rfl) rfl ?_
      refine jj_iload_n 2 dd_Mo_voids_51 rfl ?_
      refine jj_iconst (v := 4) dd_Mo_voids_52 rfl ?_
      refine jj_idiv dd_Mo_voids_53 (by decide) ?_
      refine jj_ti (x' := nI ((i) / 4)) (pk_div (a := i) (d := 4) (by omega) (by decide) (by decide)) ?_
      refine jj_zS hS dd_Mo_voids_54 rfl (vp_in_nI (n := (i) / 4) (by omega) (by decide)) ((i) / 4) (nI_clamp (n := (i) / 4) (by omega)) ?_
      refine jj_if_ne (tgt := 62) dd_Mo_voids_55 (by decide) (fun h55 => ?_) (fun h55 => ?_)
      · skip
        refine jj_iconst (v := 0) dd_Mo_voids_62 rfl ?_
        refine jj_iret dd_Mo_voids_63 rfl rfl ?_
        refine ⟨_, hS, ?_⟩
        try simp [uf_at, pu_F, en_oth, -Int32.not_lt, -Int32.not_le] at h9 h33 h55
        simpa [uf_at, pu_F, en_oth, vo_F, vo_r, -Int32.not_lt, -Int32.not_le, h9, h33, h55] using hQ
      · skip
        refine jj_iconst (v := 1) dd_Mo_voids_58 rfl ?_
        refine jj_goto (tgt := 63) dd_Mo_voids_59 (by decide) ?_
        refine jj_iret dd_Mo_voids_63 rfl rfl ?_
        refine ⟨_, hS, ?_⟩
        try simp [uf_at, pu_F, en_oth, -Int32.not_lt, -Int32.not_le] at h9 h33 h55
        simpa [uf_at, pu_F, en_oth, vo_F, vo_r, -Int32.not_lt, -Int32.not_le, h9, h33, h55] using hQ
    · skip
      refine jj_iconst (v := 0) dd_Mo_voids_36 rfl ?_
      refine jj_goto (tgt := 46) dd_Mo_voids_37 (by decide) ?_
      refine jj_asS hS dd_Mo_voids_46 rfl (vp_in_nI (n := i) (by omega) (by decide)) (i) (nI_clamp (n := i) (by omega)) (fun M hS => ?_)
      refine jj_aload_n 1 dd_Mo_voids_47 rfl ?_
      refine jj_rS (n := 77) hS dd_Mo_voids_48 ff_Mo_47 rfl (fun _ => rfl) rfl ?_
      refine jj_iload_n 2 dd_Mo_voids_51 rfl ?_
      refine jj_iconst (v := 4) dd_Mo_voids_52 rfl ?_
      refine jj_idiv dd_Mo_voids_53 (by decide) ?_
      refine jj_ti (x' := nI ((i) / 4)) (pk_div (a := i) (d := 4) (by omega) (by decide) (by decide)) ?_
      refine jj_zS hS dd_Mo_voids_54 rfl (vp_in_nI (n := (i) / 4) (by omega) (by decide)) ((i) / 4) (nI_clamp (n := (i) / 4) (by omega)) ?_
      refine jj_if_ne (tgt := 62) dd_Mo_voids_55 (by decide) (fun h55 => ?_) (fun h55 => ?_)
      · skip
        refine jj_iconst (v := 0) dd_Mo_voids_62 rfl ?_
        refine jj_iret dd_Mo_voids_63 rfl rfl ?_
        refine ⟨_, hS, ?_⟩
        try simp [uf_at, pu_F, en_oth, -Int32.not_lt, -Int32.not_le] at h9 h33 h55
        simpa [uf_at, pu_F, en_oth, vo_F, vo_r, -Int32.not_lt, -Int32.not_le, h9, h33, h55] using hQ
      · skip
        refine jj_iconst (v := 1) dd_Mo_voids_58 rfl ?_
        refine jj_goto (tgt := 63) dd_Mo_voids_59 (by decide) ?_
        refine jj_iret dd_Mo_voids_63 rfl rfl ?_
        refine ⟨_, hS, ?_⟩
        try simp [uf_at, pu_F, en_oth, -Int32.not_lt, -Int32.not_le] at h9 h33 h55
        simpa [uf_at, pu_F, en_oth, vo_F, vo_r, -Int32.not_lt, -Int32.not_le, h9, h33, h55] using hQ
set_option maxRecDepth 20000 in
theorem cs_Mo_locks {l : Launch} {g : Nat → Nat} {S : ss_} {Q : Option Value → ss_ → Prop} {c i : Nat} {p : Int32} (hc : c < 4) (hi : i < 12) (hQ : Q (some (.int (lo_r S.1 c i p))) (lo_F S.1 c i p, S.2)) : cs_ l yy_Mo_locks bb_Mo_locks 5 (some .boolean) 1 0 0 g [.ref (g 60), .int (nI c), .int (nI i), .int p] S Q := by
  intro M hS
  refine ct_of (by decide) (Nat.le_of_ble_eq_true rfl) (fun G A => ?_)
  refine jj_aload_n 0 dd_Mo_locks_0 rfl ?_
  refine jj_iload_n 2 dd_Mo_locks_1 rfl ?_
  refine jj_iconst (v := 4) dd_Mo_locks_2 rfl ?_
  refine jj_idiv dd_Mo_locks_3 (by decide) ?_
  refine jj_ti (x' := nI ((i) / 4)) (pk_div (a := i) (d := 4) (by omega) (by decide) (by decide)) ?_
  refine jj_callV (ci := 7) [_] [] 0 0 dd_Mo_locks_4 cs_Mo_102 ci_Mo_102 (hS.1.1 60 _ rfl) ⟨by decide, rfl⟩ rfl (Nat.le_of_ble_eq_true rfl) ⟨(Nat.le_of_ble_eq_true rfl), (Nat.le_of_ble_eq_true rfl)⟩ ⟨(Nat.le_of_ble_eq_true rfl), (Nat.le_of_ble_eq_true rfl)⟩ rfl (cs_use (cs_Mo_entry (t := i / 4) (by omega) (fun M hS => ?_)) hS)
  refine jj_istore (lv' := [(4, .int _), (0, .ref (g 60)), (1, .int (nI (c))), (2, .int (nI (i))), (3, .int _)]) dd_Mo_locks_7 (Nat.le_of_ble_eq_true rfl) rfl ?_
  refine jj_iload 0 dd_Mo_locks_9 rfl ?_
  refine jj_if_eq (tgt := 84) dd_Mo_locks_11 (by decide) (fun h11 => ?_) (fun h11 => ?_)
  · skip
    refine jj_aload_n 1 dd_Mo_locks_84 rfl ?_
    refine jj_rS (n := 77) hS dd_Mo_locks_85 ff_Mo_47 rfl (fun _ => rfl) rfl ?_
    refine jj_iload_n 3 dd_Mo_locks_88 rfl ?_
    refine jj_iconst (v := 4) dd_Mo_locks_89 rfl ?_
    refine jj_idiv dd_Mo_locks_90 (by decide) ?_
    refine jj_ti (x' := nI ((i) / 4)) (pk_div (a := i) (d := 4) (by omega) (by decide) (by decide)) ?_
    refine jj_zS hS dd_Mo_locks_91 rfl (vp_in_nI (n := (i) / 4) (by omega) (by decide)) ((i) / 4) (nI_clamp (n := (i) / 4) (by omega)) ?_
    refine jj_if_ne (tgt := 99) dd_Mo_locks_92 (by decide) (fun h92 => ?_) (fun h92 => ?_)
    · skip
      refine jj_iconst (v := 0) dd_Mo_locks_99 rfl ?_
      refine jj_iret dd_Mo_locks_100 rfl rfl ?_
      refine ⟨_, hS, ?_⟩
      try simp [uf_at, pu_F, en_oth, -Int32.not_lt, -Int32.not_le] at h11 h92
      simpa [uf_at, pu_F, en_oth, lo_F, lo_r, -Int32.not_lt, -Int32.not_le, h11, h92] using hQ
    · skip
      refine jj_iconst (v := 1) dd_Mo_locks_95 rfl ?_
      refine jj_goto (tgt := 100) dd_Mo_locks_96 (by decide) ?_
      refine jj_iret dd_Mo_locks_100 rfl rfl ?_
      refine ⟨_, hS, ?_⟩
      try simp [uf_at, pu_F, en_oth, -Int32.not_lt, -Int32.not_le] at h11 h92
      simpa [uf_at, pu_F, en_oth, lo_F, lo_r, -Int32.not_lt, -Int32.not_le, h11, h92] using hQ
  · skip
    refine jj_aload_n 1 dd_Mo_locks_14 rfl ?_
    refine jj_rS (n := 65) hS dd_Mo_locks_15 ff_Mo_13 rfl (fun _ => rfl) rfl ?_
    refine jj_iload_n 3 dd_Mo_locks_18 rfl ?_
    refine jj_aload_n 1 dd_Mo_locks_19 rfl ?_
    refine jj_rS (n := 84) hS dd_Mo_locks_20 ff_Mo_69 rfl (fun _ => rfl) rfl ?_
    refine jj_iload_n 2 dd_Mo_locks_23 rfl ?_
    refine jj_aS hS dd_Mo_locks_24 rfl (vp_in_nI (n := c) (by omega) (by decide)) (c) (nI_clamp (n := c) (by omega)) ?_
    refine jj_asS hS dd_Mo_locks_25 rfl (vp_in_nI (n := i) (by omega) (by decide)) (i) (nI_clamp (n := i) (by omega)) (fun M hS => ?_)
    refine jj_aload_n 1 dd_Mo_locks_26 rfl ?_
    refine jj_rS (n := 66) hS dd_Mo_locks_27 ff_Mo_17 rfl (fun _ => rfl) rfl ?_
    refine jj_iload_n 3 dd_Mo_locks_30 rfl ?_
    refine jj_iload_n 4 dd_Mo_locks_31 rfl ?_
    refine jj_asS hS dd_Mo_locks_32 rfl (vp_in_nI (n := i) (by omega) (by decide)) (i) (nI_clamp (n := i) (by omega)) (fun M hS => ?_)
    refine jj_aload_n 1 dd_Mo_locks_33 rfl ?_
    refine jj_rS (n := 67) hS dd_Mo_locks_34 ff_Mo_20 rfl (fun _ => rfl) rfl ?_
    refine jj_iload_n 3 dd_Mo_locks_37 rfl ?_
    refine jj_iload_n 2 dd_Mo_locks_38 rfl ?_
    refine jj_asS hS dd_Mo_locks_39 rfl (vp_in_nI (n := i) (by omega) (by decide)) (i) (nI_clamp (n := i) (by omega)) (fun M hS => ?_)
    refine jj_aload_n 1 dd_Mo_locks_40 rfl ?_
    refine jj_rS (n := 68) hS dd_Mo_locks_41 ff_Mo_23 rfl (fun _ => rfl) rfl ?_
    refine jj_iload_n 3 dd_Mo_locks_44 rfl ?_
    refine jj_aload_n 1 dd_Mo_locks_45 rfl ?_
    refine jj_gS hS dd_Mo_locks_46 ff_Mo_110 rfl (fun _ => rfl) ?_
    refine jj_asS hS dd_Mo_locks_49 rfl (vp_in_nI (n := i) (by omega) (by decide)) (i) (nI_clamp (n := i) (by omega)) (fun M hS => ?_)
    refine jj_aload_n 1 dd_Mo_locks_50 rfl ?_
    refine jj_rS (n := 69) hS dd_Mo_locks_51 ff_Mo_26 rfl (fun _ => rfl) rfl ?_
    refine jj_iload_n 3 dd_Mo_locks_54 rfl ?_
    refine jj_aload_n 1 dd_Mo_locks_55 rfl ?_
    refine jj_rS (n := 87) hS dd_Mo_locks_56 ff_Mo_78 rfl (fun _ => rfl) rfl ?_
    refine jj_bipush (v := 12) dd_Mo_locks_59 rfl ?_
    refine jj_iload_n 2 dd_Mo_locks_61 rfl ?_
    refine jj_imul dd_Mo_locks_62 ?_
    refine jj_ti (x' := nI (12 * c)) (pk_mul (12) (c)) ?_
    refine jj_iload_n 3 dd_Mo_locks_63 rfl ?_
    refine jj_iadd dd_Mo_locks_64 ?_
    refine jj_ti (x' := nI ((12 * c) + (i))) (nI_add (12 * c) (i)) ?_
    refine jj_aS hS dd_Mo_locks_65 rfl (vp_in_nI (n := (12 * c) + (i)) (by omega) (by decide)) ((12 * c) + (i)) (nI_clamp (n := (12 * c) + (i)) (by omega)) ?_
    refine jj_asS hS dd_Mo_locks_66 rfl (vp_in_nI (n := i) (by omega) (by decide)) (i) (nI_clamp (n := i) (by omega)) (fun M hS => ?_)
    refine jj_aload_n 1 dd_Mo_locks_67 rfl ?_
    refine jj_rS (n := 70) hS dd_Mo_locks_68 ff_Mo_29 rfl (fun _ => rfl) rfl ?_
    refine jj_iload_n 3 dd_Mo_locks_71 rfl ?_
    refine jj_aload_n 1 dd_Mo_locks_72 rfl ?_
    refine jj_rS (n := 88) hS dd_Mo_locks_73 ff_Mo_81 rfl (fun _ => rfl) rfl ?_
    refine jj_bipush (v := 12) dd_Mo_locks_76 rfl ?_
    refine jj_iload_n 2 dd_Mo_locks_78 rfl ?_
    refine jj_imul dd_Mo_locks_79 ?_
    refine jj_ti (x' := nI (12 * c)) (pk_mul (12) (c)) ?_
    refine jj_iload_n 3 dd_Mo_locks_80 rfl ?_
    refine jj_iadd dd_Mo_locks_81 ?_
    refine jj_ti (x' := nI ((12 * c) + (i))) (nI_add (12 * c) (i)) ?_
    refine jj_aS hS dd_Mo_locks_82 rfl (vp_in_nI (n := (12 * c) + (i)) (by omega) (by decide)) ((12 * c) + (i)) (nI_clamp (n := (12 * c) + (i)) (by omega)) ?_
    refine jj_asS hS dd_Mo_locks_83 rfl (vp_in_nI (n := i) (by omega) (by decide)) (i) (nI_clamp (n := i) (by omega)) (fun M hS => ?_)
    refine jj_aload_n 1 dd_Mo_locks_84 rfl ?_
    refine jj_rS (n := 77) hS dd_Mo_locks_85 ff_Mo_47 rfl (fun _ => rfl) rfl ?_
    refine jj_iload_n 3 dd_Mo_locks_88 rfl ?_
    refine jj_iconst (v := 4) dd_Mo_locks_89 rfl ?_
    refine jj_idiv dd_Mo_locks_90 (by decide) ?_
    refine jj_ti (x' := nI ((i) / 4)) (pk_div (a := i) (d := 4) (by omega) (by decide) (by decide)) ?_
    refine jj_zS hS dd_Mo_locks_91 rfl (vp_in_nI (n := (i) / 4) (by omega) (by decide)) ((i) / 4) (nI_clamp (n := (i) / 4) (by omega)) ?_
    refine jj_if_ne (tgt := 99) dd_Mo_locks_92 (by decide) (fun h92 => ?_) (fun h92 => ?_)
    · skip
      refine jj_iconst (v := 0) dd_Mo_locks_99 rfl ?_
      refine jj_iret dd_Mo_locks_100 rfl rfl ?_
      refine ⟨_, hS, ?_⟩
      try simp [uf_at, pu_F, en_oth, -Int32.not_lt, -Int32.not_le] at h11 h92
      simpa [uf_at, pu_F, en_oth, lo_F, lo_r, -Int32.not_lt, -Int32.not_le, h11, h92] using hQ
    · skip
      refine jj_iconst (v := 1) dd_Mo_locks_95 rfl ?_
      refine jj_goto (tgt := 100) dd_Mo_locks_96 (by decide) ?_
      refine jj_iret dd_Mo_locks_100 rfl rfl ?_
      refine ⟨_, hS, ?_⟩
      try simp [uf_at, pu_F, en_oth, -Int32.not_lt, -Int32.not_le] at h11 h92
      simpa [uf_at, pu_F, en_oth, lo_F, lo_r, -Int32.not_lt, -Int32.not_le, h11, h92] using hQ
def dc_go (F : Nat → Nat → Int32) (c x : Int32) : Nat → Nat → Int32 → Int32
  | 0, _, z => z
  | n + 1, k, z => dc_go F c x n (k + 1) (if F 72 k = c ∧ F 74 k = x ∧ (F 75 k = 1 ∨ F 75 k = 2) then F 73 k else z)
def dc_ (F : Nat → Nat → Int32) (c x : Int32) : Int32 := dc_go F c x (rec_ F) 0 0
def ov_go (F : Nat → Nat → Int32) (c x : Int32) : Nat → Nat → Int32 → Int32
  | 0, _, z => z
  | n + 1, k, z => ov_go F c x n (k + 1) (if ¬ z = 0 ∨ (F 72 k = c ∧ (((F 75 k = 1 ∨ F 75 k = 2) ∧ ¬ F 73 k ≤ x) ∨ (F 75 k = 3 ∧ F 74 k = x))) then 1 else 0)
def ov_ (F : Nat → Nat → Int32) (c x : Int32) : Int32 := ov_go F c x (rec_ F) 0 0
def la_go (F : Nat → Nat → Int32) (c x : Int32) : Nat → Nat → Int32 → Int32
  | 0, _, z => z
  | n + 1, k, z => la_go F c x n (k + 1) (if (F 72 k = c ∧ (F 75 k = 1 ∨ F 75 k = 2) ∧ ¬ x ≤ F 73 k) ∧ (z < 0 ∨ ¬ F 73 k ≤ F 73 z.toNatClampNeg) then nI k else z)
def la_ (F : Nat → Nat → Int32) (c x : Int32) : Int32 := la_go F c x (rec_ F) 0 (-1)
def ix_ (z : Int32) (n : Nat) : Prop := z < 0 ∨ vp_in z n
theorem ix_in {z : Int32} {n : Nat} (h : ix_ z n) (h0 : ¬ z < 0) : vp_in z n := h.resolve_left h0
theorem mm_rfl (x : Int32) : x ≤ x := by
  rw [Int32.le_iff_toInt_le]
  omega
set_option maxRecDepth 20000 in
theorem cs_Mo_decision {l : Launch} {g : Nat → Nat} {S : ss_} {Q : Option Value → ss_ → Prop} {c x : Int32} (hr : S.1 60 11 = nI (rec_ S.1)) (hr2 : rec_ S.1 ≤ 1540) (hQ : Q (some (.int (dc_ S.1 c x))) S) : cs_ l yy_Mo_decision bb_Mo_decision 5 (some .int) 0 0 0 g [.ref (g 60), .int c, .int x] S Q := by
  intro M hS
  refine ct_of (by decide) (Nat.le_of_ble_eq_true rfl) (fun G A => ?_)
  have loop : ∀ (n k : Nat) (z : Int32), k + n = rec_ S.1 → Q (some (.int (dc_go S.1 c x n k z))) S → jj_ l yy_Mo_decision bb_Mo_decision 5 (some .int) G (mm_R 0 0 0) A (mm_ret (qs_ g Q)) 0 0 5 [(4, .int (nI (k))), (3, .int (z)), (0, .ref (g 60)), (1, .int (c)), (2, .int (x))] [] M := by
    intro n
    induction n with
    | zero =>
      intro k z hk hq
      have hk : k = rec_ S.1 := by omega
      subst hk
      refine jj_iload 0 dd_Mo_decision_5 rfl ?_
      refine jj_aload_n 2 dd_Mo_decision_7 rfl ?_
      refine jj_gS hS dd_Mo_decision_8 ff_Mo_99 rfl (fun _ => rfl) ?_
      refine jj_ti (x' := nI (rec_ S.1)) hr ?_
      refine jj_icmp_ge (tgt := 72) dd_Mo_decision_11 (by decide) (fun h11 => ?_) (fun h11 => ?_)
      · skip
        refine jj_iload_n 1 dd_Mo_decision_72 rfl ?_
        refine jj_iret dd_Mo_decision_73 rfl rfl ?_
        exact ⟨_, hS, hq⟩
      · exact absurd (mm_le (fun h => absurd h (mm_nlt (mm_rfl _)))) h11
    | succ n ih =>
      intro k z hk hq
      refine jj_iload 0 dd_Mo_decision_5 rfl ?_
      refine jj_aload_n 2 dd_Mo_decision_7 rfl ?_
      refine jj_gS hS dd_Mo_decision_8 ff_Mo_99 rfl (fun _ => rfl) ?_
      refine jj_ti (x' := nI (rec_ S.1)) hr ?_
      refine jj_icmp_ge (tgt := 72) dd_Mo_decision_11 (by decide) (fun h11 => ?_) (fun h11 => ?_)
      · exact absurd h11 (nI_ge (by omega) (by omega))
      · skip
        refine jj_aload_n 2 dd_Mo_decision_14 rfl ?_
        refine jj_rS (n := 72) hS dd_Mo_decision_15 ff_Mo_32 rfl (fun _ => rfl) rfl ?_
        refine jj_iload 0 dd_Mo_decision_18 rfl ?_
        refine jj_aS hS dd_Mo_decision_20 rfl (vp_in_nI (n := k) (by omega) (by decide)) (k) (nI_clamp (n := k) (by omega)) ?_
        refine jj_iload_n 3 dd_Mo_decision_21 rfl ?_
        refine jj_icmp_ne (tgt := 66) dd_Mo_decision_22 (by decide) (fun h22 => ?_) (fun h22 => ?_)
        · skip
          refine jj_iinc 0 (lv' := [(4, .int (nI (k + 1))), (3, .int (z)), (0, .ref (g 60)), (1, .int (c)), (2, .int (x))]) dd_Mo_decision_66 rfl (nI_1 k) (Nat.le_of_ble_eq_true rfl) rfl ?_
          refine jj_goto (tgt := 5) dd_Mo_decision_69 (by decide) ?_
          exact ih _ _ (by omega) (by first | (simpa [dc_go, -Int32.not_lt, -Int32.not_le, h11, h22] using hq) | (exfalso; simp_all; done))
        · skip
          refine jj_aload_n 2 dd_Mo_decision_25 rfl ?_
          refine jj_rS (n := 74) hS dd_Mo_decision_26 ff_Mo_38 rfl (fun _ => rfl) rfl ?_
          refine jj_iload 0 dd_Mo_decision_29 rfl ?_
          refine jj_aS hS dd_Mo_decision_31 rfl (vp_in_nI (n := k) (by omega) (by decide)) (k) (nI_clamp (n := k) (by omega)) ?_
          refine jj_iload_n 4 dd_Mo_decision_32 rfl ?_
          refine jj_icmp_ne (tgt := 66) dd_Mo_decision_33 (by decide) (fun h33 => ?_) (fun h33 => ?_)
          · skip
            refine jj_iinc 0 (lv' := [(4, .int (nI (k + 1))), (3, .int (z)), (0, .ref (g 60)), (1, .int (c)), (2, .int (x))]) dd_Mo_decision_66 rfl (nI_1 k) (Nat.le_of_ble_eq_true rfl) rfl ?_
            refine jj_goto (tgt := 5) dd_Mo_decision_69 (by decide) ?_
            exact ih _ _ (by omega) (by first | (simpa [dc_go, -Int32.not_lt, -Int32.not_le, h11, h22, h33] using hq) | (exfalso; simp_all; done))
          · skip
            refine jj_aload_n 2 dd_Mo_decision_36 rfl ?_
            refine jj_rS (n := 75) hS dd_Mo_decision_37 ff_Mo_41 rfl (fun _ => rfl) rfl ?_
            refine jj_iload 0 dd_Mo_decision_40 rfl ?_
            refine jj_aS hS dd_Mo_decision_42 rfl (vp_in_nI (n := k) (by omega) (by decide)) (k) (nI_clamp (n := k) (by omega)) ?_
            refine jj_iconst (v := 1) dd_Mo_decision_43 rfl ?_
            refine jj_icmp_eq (tgt := 58) dd_Mo_decision_44 (by decide) (fun h44 => ?_) (fun h44 => ?_)
            · skip
              refine jj_aload_n 2 dd_Mo_decision_58 rfl ?_
              refine jj_rS (n := 73) hS dd_Mo_decision_59 ff_Mo_35 rfl (fun _ => rfl) rfl ?_
              refine jj_iload 0 dd_Mo_decision_62 rfl ?_
              refine jj_aS hS dd_Mo_decision_64 rfl (vp_in_nI (n := k) (by omega) (by decide)) (k) (nI_clamp (n := k) (by omega)) ?_
              refine jj_istore_n (lv' := [(3, .int _), (4, .int (nI (k))), (0, .ref (g 60)), (1, .int (c)), (2, .int (x))]) dd_Mo_decision_65 (Nat.le_of_ble_eq_true rfl) rfl ?_
              refine jj_iinc 1 (lv' := [(4, .int (nI (k + 1))), (3, .int _), (0, .ref (g 60)), (1, .int (c)), (2, .int (x))]) dd_Mo_decision_66 rfl (nI_1 k) (Nat.le_of_ble_eq_true rfl) rfl ?_
              refine jj_goto (tgt := 5) dd_Mo_decision_69 (by decide) ?_
              exact ih _ _ (by omega) (by first | (simpa [dc_go, -Int32.not_lt, -Int32.not_le, h11, h22, h33, h44] using hq) | (exfalso; simp_all; done))
            · skip
              refine jj_aload_n 2 dd_Mo_decision_47 rfl ?_
              refine jj_rS (n := 75) hS dd_Mo_decision_48 ff_Mo_41 rfl (fun _ => rfl) rfl ?_
              refine jj_iload 0 dd_Mo_decision_51 rfl ?_
              refine jj_aS hS dd_Mo_decision_53 rfl (vp_in_nI (n := k) (by omega) (by decide)) (k) (nI_clamp (n := k) (by omega)) ?_
              refine jj_iconst (v := 2) dd_Mo_decision_54 rfl ?_
              refine jj_icmp_ne (tgt := 66) dd_Mo_decision_55 (by decide) (fun h55 => ?_) (fun h55 => ?_)
              · skip
                refine jj_iinc 0 (lv' := [(4, .int (nI (k + 1))), (3, .int (z)), (0, .ref (g 60)), (1, .int (c)), (2, .int (x))]) dd_Mo_decision_66 rfl (nI_1 k) (Nat.le_of_ble_eq_true rfl) rfl ?_
                refine jj_goto (tgt := 5) dd_Mo_decision_69 (by decide) ?_
                exact ih _ _ (by omega) (by first | (simpa [dc_go, -Int32.not_lt, -Int32.not_le, h11, h22, h33, h44, h55] using hq) | (exfalso; simp_all; done))
              · skip
                refine jj_aload_n 2 dd_Mo_decision_58 rfl ?_
                refine jj_rS (n := 73) hS dd_Mo_decision_59 ff_Mo_35 rfl (fun _ => rfl) rfl ?_
                refine jj_iload 0 dd_Mo_decision_62 rfl ?_
                refine jj_aS hS dd_Mo_decision_64 rfl (vp_in_nI (n := k) (by omega) (by decide)) (k) (nI_clamp (n := k) (by omega)) ?_
                refine jj_istore_n (lv' := [(3, .int _), (4, .int (nI (k))), (0, .ref (g 60)), (1, .int (c)), (2, .int (x))]) dd_Mo_decision_65 (Nat.le_of_ble_eq_true rfl) rfl ?_
                refine jj_iinc 1 (lv' := [(4, .int (nI (k + 1))), (3, .int _), (0, .ref (g 60)), (1, .int (c)), (2, .int (x))]) dd_Mo_decision_66 rfl (nI_1 k) (Nat.le_of_ble_eq_true rfl) rfl ?_
                refine jj_goto (tgt := 5) dd_Mo_decision_69 (by decide) ?_
                exact ih _ _ (by omega) (by first | (simpa [dc_go, -Int32.not_lt, -Int32.not_le, h11, h22, h33, h44, h55] using hq) | (exfalso; simp_all; done))
  refine jj_iconst (v := 0) dd_Mo_decision_0 rfl ?_
  refine jj_istore_n (lv' := [(3, .int (0)), (0, .ref (g 60)), (1, .int (c)), (2, .int (x))]) dd_Mo_decision_1 (Nat.le_of_ble_eq_true rfl) rfl ?_
  refine jj_iconst (v := 0) dd_Mo_decision_2 rfl ?_
  refine jj_istore (lv' := [(4, .int (0)), (3, .int (0)), (0, .ref (g 60)), (1, .int (c)), (2, .int (x))]) dd_Mo_decision_3 (Nat.le_of_ble_eq_true rfl) rfl ?_
  exact loop (rec_ S.1) 0 _ (by omega) hQ
set_option maxRecDepth 20000 in
theorem cs_Mo_overtaken {l : Launch} {g : Nat → Nat} {S : ss_} {Q : Option Value → ss_ → Prop} {c x : Int32} (hr : S.1 60 11 = nI (rec_ S.1)) (hr2 : rec_ S.1 ≤ 1540) (hQ : Q (some (.int (ov_ S.1 c x))) S) : cs_ l yy_Mo_overtaken bb_Mo_overtaken 6 (some .boolean) 0 0 0 g [.ref (g 60), .int c, .int x] S Q := by
  intro M hS
  refine ct_of (by decide) (Nat.le_of_ble_eq_true rfl) (fun G A => ?_)
  have loop : ∀ (n k : Nat) (z : Int32), k + n = rec_ S.1 → Q (some (.int (ov_go S.1 c x n k z))) S → (z = 0 ∨ z = 1) → jj_ l yy_Mo_overtaken bb_Mo_overtaken 6 (some .boolean) G (mm_R 0 0 0) A (mm_ret (qs_ g Q)) 0 0 5 [(4, .int (nI (k))), (3, .int (z)), (0, .ref (g 60)), (1, .int (c)), (2, .int (x))] [] M := by
    intro n
    induction n with
    | zero =>
      intro k z hk hq hz
      have hk : k = rec_ S.1 := by omega
      subst hk
      refine jj_iload 0 dd_Mo_overtaken_5 rfl ?_
      refine jj_aload_n 2 dd_Mo_overtaken_7 rfl ?_
      refine jj_gS hS dd_Mo_overtaken_8 ff_Mo_99 rfl (fun _ => rfl) ?_
      refine jj_ti (x' := nI (rec_ S.1)) hr ?_
      refine jj_icmp_ge (tgt := 108) dd_Mo_overtaken_11 (by decide) (fun h11 => ?_) (fun h11 => ?_)
      · skip
        refine jj_iload_n 1 dd_Mo_overtaken_108 rfl ?_
        refine jj_iret dd_Mo_overtaken_109 rfl (mm_bl hz).1 ?_
        exact ⟨_, hS, hq⟩
      · exact absurd (mm_le (fun h => absurd h (mm_nlt (mm_rfl _)))) h11
    | succ n ih =>
      intro k z hk hq hz
      refine jj_iload 0 dd_Mo_overtaken_5 rfl ?_
      refine jj_aload_n 2 dd_Mo_overtaken_7 rfl ?_
      refine jj_gS hS dd_Mo_overtaken_8 ff_Mo_99 rfl (fun _ => rfl) ?_
      refine jj_ti (x' := nI (rec_ S.1)) hr ?_
      refine jj_icmp_ge (tgt := 108) dd_Mo_overtaken_11 (by decide) (fun h11 => ?_) (fun h11 => ?_)
      · exact absurd h11 (nI_ge (by omega) (by omega))
      · skip
        refine jj_aload_n 2 dd_Mo_overtaken_14 rfl ?_
        refine jj_rS (n := 75) hS dd_Mo_overtaken_15 ff_Mo_41 rfl (fun _ => rfl) rfl ?_
        refine jj_iload 0 dd_Mo_overtaken_18 rfl ?_
        refine jj_aS hS dd_Mo_overtaken_20 rfl (vp_in_nI (n := k) (by omega) (by decide)) (k) (nI_clamp (n := k) (by omega)) ?_
        refine jj_iconst (v := 1) dd_Mo_overtaken_21 rfl ?_
        refine jj_icmp_eq (tgt := 36) dd_Mo_overtaken_22 (by decide) (fun h22 => ?_) (fun h22 => ?_)
        · skip
          refine jj_aload_n 2 dd_Mo_overtaken_36 rfl ?_
          refine jj_rS (n := 73) hS dd_Mo_overtaken_37 ff_Mo_35 rfl (fun _ => rfl) rfl ?_
          refine jj_iload 0 dd_Mo_overtaken_40 rfl ?_
          refine jj_aS hS dd_Mo_overtaken_42 rfl (vp_in_nI (n := k) (by omega) (by decide)) (k) (nI_clamp (n := k) (by omega)) ?_
          refine jj_iload_n 4 dd_Mo_overtaken_43 rfl ?_
          refine jj_icmp_le (tgt := 51) dd_Mo_overtaken_44 (by decide) (fun h44 => ?_) (fun h44 => ?_)
          · skip
            refine jj_iconst (v := 0) dd_Mo_overtaken_51 rfl ?_
            refine jj_istore (lv' := [(5, .int (0)), (4, .int (nI (k))), (3, .int (z)), (0, .ref (g 60)), (1, .int (c)), (2, .int (x))]) dd_Mo_overtaken_52 (Nat.le_of_ble_eq_true rfl) rfl ?_
            refine jj_iload_n 2 dd_Mo_overtaken_54 rfl ?_
            refine jj_if_ne (tgt := 96) dd_Mo_overtaken_55 (by decide) (fun h55 => ?_) (fun h55 => ?_)
            · skip
              refine jj_iconst (v := 1) dd_Mo_overtaken_96 rfl ?_
              refine jj_goto (tgt := 101) dd_Mo_overtaken_97 (by decide) ?_
              refine jj_istore_n (lv' := [(3, .int (1)), (5, .int (0)), (4, .int (nI (k))), (0, .ref (g 60)), (1, .int (c)), (2, .int (x))]) dd_Mo_overtaken_101 (Nat.le_of_ble_eq_true rfl) rfl ?_
              refine jj_iinc 2 (lv' := [(4, .int (nI (k + 1))), (3, .int (1)), (5, .int (0)), (0, .ref (g 60)), (1, .int (c)), (2, .int (x))]) dd_Mo_overtaken_102 rfl (nI_1 k) (Nat.le_of_ble_eq_true rfl) rfl ?_
              refine jj_goto (tgt := 5) dd_Mo_overtaken_105 (by decide) ?_
              refine jj_sub [0, 1, 3, 4, 5] rfl ?_
              exact ih _ _ (by omega) (by first | (simpa [ov_go, -Int32.not_lt, -Int32.not_le, h11, h22, h44, h55] using hq) | (exfalso; simp_all; done)) (by first | exact hz | exact Or.inl rfl | exact Or.inr rfl)
            · skip
              refine jj_aload_n 3 dd_Mo_overtaken_58 rfl ?_
              refine jj_rS (n := 72) hS dd_Mo_overtaken_59 ff_Mo_32 rfl (fun _ => rfl) rfl ?_
              refine jj_iload 1 dd_Mo_overtaken_62 rfl ?_
              refine jj_aS hS dd_Mo_overtaken_64 rfl (vp_in_nI (n := k) (by omega) (by decide)) (k) (nI_clamp (n := k) (by omega)) ?_
              refine jj_iload_n 4 dd_Mo_overtaken_65 rfl ?_
              refine jj_icmp_ne (tgt := 100) dd_Mo_overtaken_66 (by decide) (fun h66 => ?_) (fun h66 => ?_)
              · skip
                refine jj_iconst (v := 0) dd_Mo_overtaken_100 rfl ?_
                refine jj_istore_n (lv' := [(3, .int (0)), (5, .int (0)), (4, .int (nI (k))), (0, .ref (g 60)), (1, .int (c)), (2, .int (x))]) dd_Mo_overtaken_101 (Nat.le_of_ble_eq_true rfl) rfl ?_
                refine jj_iinc 2 (lv' := [(4, .int (nI (k + 1))), (3, .int (0)), (5, .int (0)), (0, .ref (g 60)), (1, .int (c)), (2, .int (x))]) dd_Mo_overtaken_102 rfl (nI_1 k) (Nat.le_of_ble_eq_true rfl) rfl ?_
                refine jj_goto (tgt := 5) dd_Mo_overtaken_105 (by decide) ?_
                refine jj_sub [0, 1, 3, 4, 5] rfl ?_
                exact ih _ _ (by omega) (by first | (simpa [ov_go, -Int32.not_lt, -Int32.not_le, h11, h22, h44, h55, h66] using hq) | (exfalso; simp_all; done)) (by first | exact hz | exact Or.inl rfl | exact Or.inr rfl)
              · skip
                refine jj_iload 0 dd_Mo_overtaken_69 rfl ?_
                refine jj_if_ne (tgt := 96) dd_Mo_overtaken_71 (by decide) (fun h => absurd h (by decide)) (fun _ => ?_)
                refine jj_aload_n 3 dd_Mo_overtaken_74 rfl ?_
                refine jj_rS (n := 75) hS dd_Mo_overtaken_75 ff_Mo_41 rfl (fun _ => rfl) rfl ?_
                refine jj_iload 1 dd_Mo_overtaken_78 rfl ?_
                refine jj_aS hS dd_Mo_overtaken_80 rfl (vp_in_nI (n := k) (by omega) (by decide)) (k) (nI_clamp (n := k) (by omega)) ?_
                refine jj_iconst (v := 3) dd_Mo_overtaken_81 rfl ?_
                refine jj_icmp_ne (tgt := 100) dd_Mo_overtaken_82 (by decide) (fun h82 => ?_) (fun h82 => ?_)
                · skip
                  refine jj_iconst (v := 0) dd_Mo_overtaken_100 rfl ?_
                  refine jj_istore_n (lv' := [(3, .int (0)), (5, .int (0)), (4, .int (nI (k))), (0, .ref (g 60)), (1, .int (c)), (2, .int (x))]) dd_Mo_overtaken_101 (Nat.le_of_ble_eq_true rfl) rfl ?_
                  refine jj_iinc 2 (lv' := [(4, .int (nI (k + 1))), (3, .int (0)), (5, .int (0)), (0, .ref (g 60)), (1, .int (c)), (2, .int (x))]) dd_Mo_overtaken_102 rfl (nI_1 k) (Nat.le_of_ble_eq_true rfl) rfl ?_
                  refine jj_goto (tgt := 5) dd_Mo_overtaken_105 (by decide) ?_
                  refine jj_sub [0, 1, 3, 4, 5] rfl ?_
                  exact ih _ _ (by omega) (by first | (simpa [ov_go, -Int32.not_lt, -Int32.not_le, h11, h22, h44, h55, h66, h82] using hq) | (exfalso; simp_all; done)) (by first | exact hz | exact Or.inl rfl | exact Or.inr rfl)
                · skip
                  refine jj_aload_n 3 dd_Mo_overtaken_85 rfl ?_
                  refine jj_rS (n := 74) hS dd_Mo_overtaken_86 ff_Mo_38 rfl (fun _ => rfl) rfl ?_
                  refine jj_iload 1 dd_Mo_overtaken_89 rfl ?_
                  refine jj_aS hS dd_Mo_overtaken_91 rfl (vp_in_nI (n := k) (by omega) (by decide)) (k) (nI_clamp (n := k) (by omega)) ?_
                  refine jj_iload_n 5 dd_Mo_overtaken_92 rfl ?_
                  refine jj_icmp_ne (tgt := 100) dd_Mo_overtaken_93 (by decide) (fun h93 => ?_) (fun h93 => ?_)
                  · skip
                    refine jj_iconst (v := 0) dd_Mo_overtaken_100 rfl ?_
                    refine jj_istore_n (lv' := [(3, .int (0)), (5, .int (0)), (4, .int (nI (k))), (0, .ref (g 60)), (1, .int (c)), (2, .int (x))]) dd_Mo_overtaken_101 (Nat.le_of_ble_eq_true rfl) rfl ?_
                    refine jj_iinc 2 (lv' := [(4, .int (nI (k + 1))), (3, .int (0)), (5, .int (0)), (0, .ref (g 60)), (1, .int (c)), (2, .int (x))]) dd_Mo_overtaken_102 rfl (nI_1 k) (Nat.le_of_ble_eq_true rfl) rfl ?_
                    refine jj_goto (tgt := 5) dd_Mo_overtaken_105 (by decide) ?_
                    refine jj_sub [0, 1, 3, 4, 5] rfl ?_
                    exact ih _ _ (by omega) (by first | (simpa [ov_go, -Int32.not_lt, -Int32.not_le, h11, h22, h44, h55, h66, h82, h93] using hq) | (exfalso; simp_all; done)) (by first | exact hz | exact Or.inl rfl | exact Or.inr rfl)
                  · skip
                    refine jj_iconst (v := 1) dd_Mo_overtaken_96 rfl ?_
                    refine jj_goto (tgt := 101) dd_Mo_overtaken_97 (by decide) ?_
                    refine jj_istore_n (lv' := [(3, .int (1)), (5, .int (0)), (4, .int (nI (k))), (0, .ref (g 60)), (1, .int (c)), (2, .int (x))]) dd_Mo_overtaken_101 (Nat.le_of_ble_eq_true rfl) rfl ?_
                    refine jj_iinc 2 (lv' := [(4, .int (nI (k + 1))), (3, .int (1)), (5, .int (0)), (0, .ref (g 60)), (1, .int (c)), (2, .int (x))]) dd_Mo_overtaken_102 rfl (nI_1 k) (Nat.le_of_ble_eq_true rfl) rfl ?_
                    refine jj_goto (tgt := 5) dd_Mo_overtaken_105 (by decide) ?_
                    refine jj_sub [0, 1, 3, 4, 5] rfl ?_
                    exact ih _ _ (by omega) (by first | (simpa [ov_go, -Int32.not_lt, -Int32.not_le, h11, h22, h44, h55, h66, h82, h93] using hq) | (exfalso; simp_all; done)) (by first | exact hz | exact Or.inl rfl | exact Or.inr rfl)
          · skip
            refine jj_iconst (v := 1) dd_Mo_overtaken_47 rfl ?_
            refine jj_goto (tgt := 52) dd_Mo_overtaken_48 (by decide) ?_
            refine jj_istore (lv' := [(5, .int (1)), (4, .int (nI (k))), (3, .int (z)), (0, .ref (g 60)), (1, .int (c)), (2, .int (x))]) dd_Mo_overtaken_52 (Nat.le_of_ble_eq_true rfl) rfl ?_
            refine jj_iload_n 2 dd_Mo_overtaken_54 rfl ?_
            refine jj_if_ne (tgt := 96) dd_Mo_overtaken_55 (by decide) (fun h55 => ?_) (fun h55 => ?_)
            · skip
              refine jj_iconst (v := 1) dd_Mo_overtaken_96 rfl ?_
              refine jj_goto (tgt := 101) dd_Mo_overtaken_97 (by decide) ?_
              refine jj_istore_n (lv' := [(3, .int (1)), (5, .int (1)), (4, .int (nI (k))), (0, .ref (g 60)), (1, .int (c)), (2, .int (x))]) dd_Mo_overtaken_101 (Nat.le_of_ble_eq_true rfl) rfl ?_
              refine jj_iinc 2 (lv' := [(4, .int (nI (k + 1))), (3, .int (1)), (5, .int (1)), (0, .ref (g 60)), (1, .int (c)), (2, .int (x))]) dd_Mo_overtaken_102 rfl (nI_1 k) (Nat.le_of_ble_eq_true rfl) rfl ?_
              refine jj_goto (tgt := 5) dd_Mo_overtaken_105 (by decide) ?_
              refine jj_sub [0, 1, 3, 4, 5] rfl ?_
              exact ih _ _ (by omega) (by first | (simpa [ov_go, -Int32.not_lt, -Int32.not_le, h11, h22, h44, h55] using hq) | (exfalso; simp_all; done)) (by first | exact hz | exact Or.inl rfl | exact Or.inr rfl)
            · skip
              refine jj_aload_n 3 dd_Mo_overtaken_58 rfl ?_
              refine jj_rS (n := 72) hS dd_Mo_overtaken_59 ff_Mo_32 rfl (fun _ => rfl) rfl ?_
              refine jj_iload 1 dd_Mo_overtaken_62 rfl ?_
              refine jj_aS hS dd_Mo_overtaken_64 rfl (vp_in_nI (n := k) (by omega) (by decide)) (k) (nI_clamp (n := k) (by omega)) ?_
              refine jj_iload_n 4 dd_Mo_overtaken_65 rfl ?_
              refine jj_icmp_ne (tgt := 100) dd_Mo_overtaken_66 (by decide) (fun h66 => ?_) (fun h66 => ?_)
              · skip
                refine jj_iconst (v := 0) dd_Mo_overtaken_100 rfl ?_
                refine jj_istore_n (lv' := [(3, .int (0)), (5, .int (1)), (4, .int (nI (k))), (0, .ref (g 60)), (1, .int (c)), (2, .int (x))]) dd_Mo_overtaken_101 (Nat.le_of_ble_eq_true rfl) rfl ?_
                refine jj_iinc 2 (lv' := [(4, .int (nI (k + 1))), (3, .int (0)), (5, .int (1)), (0, .ref (g 60)), (1, .int (c)), (2, .int (x))]) dd_Mo_overtaken_102 rfl (nI_1 k) (Nat.le_of_ble_eq_true rfl) rfl ?_
                refine jj_goto (tgt := 5) dd_Mo_overtaken_105 (by decide) ?_
                refine jj_sub [0, 1, 3, 4, 5] rfl ?_
                exact ih _ _ (by omega) (by first | (simpa [ov_go, -Int32.not_lt, -Int32.not_le, h11, h22, h44, h55, h66] using hq) | (exfalso; simp_all; done)) (by first | exact hz | exact Or.inl rfl | exact Or.inr rfl)
              · skip
                refine jj_iload 0 dd_Mo_overtaken_69 rfl ?_
                refine jj_if_ne (tgt := 96) dd_Mo_overtaken_71 (by decide) (fun _ => ?_) (fun h => absurd h (by decide))
                refine jj_iconst (v := 1) dd_Mo_overtaken_96 rfl ?_
                refine jj_goto (tgt := 101) dd_Mo_overtaken_97 (by decide) ?_
                refine jj_istore_n (lv' := [(3, .int (1)), (5, .int (1)), (4, .int (nI (k))), (0, .ref (g 60)), (1, .int (c)), (2, .int (x))]) dd_Mo_overtaken_101 (Nat.le_of_ble_eq_true rfl) rfl ?_
                refine jj_iinc 2 (lv' := [(4, .int (nI (k + 1))), (3, .int (1)), (5, .int (1)), (0, .ref (g 60)), (1, .int (c)), (2, .int (x))]) dd_Mo_overtaken_102 rfl (nI_1 k) (Nat.le_of_ble_eq_true rfl) rfl ?_
                refine jj_goto (tgt := 5) dd_Mo_overtaken_105 (by decide) ?_
                refine jj_sub [0, 1, 3, 4, 5] rfl ?_
                exact ih _ _ (by omega) (by first | (simpa [ov_go, -Int32.not_lt, -Int32.not_le, h11, h22, h44, h55, h66] using hq) | (exfalso; simp_all; done)) (by first | exact hz | exact Or.inl rfl | exact Or.inr rfl)
        · skip
          refine jj_aload_n 2 dd_Mo_overtaken_25 rfl ?_
          refine jj_rS (n := 75) hS dd_Mo_overtaken_26 ff_Mo_41 rfl (fun _ => rfl) rfl ?_
          refine jj_iload 0 dd_Mo_overtaken_29 rfl ?_
          refine jj_aS hS dd_Mo_overtaken_31 rfl (vp_in_nI (n := k) (by omega) (by decide)) (k) (nI_clamp (n := k) (by omega)) ?_
          refine jj_iconst (v := 2) dd_Mo_overtaken_32 rfl ?_
          refine jj_icmp_ne (tgt := 51) dd_Mo_overtaken_33 (by decide) (fun h33 => ?_) (fun h33 => ?_)
          · skip
            refine jj_iconst (v := 0) dd_Mo_overtaken_51 rfl ?_
            refine jj_istore (lv' := [(5, .int (0)), (4, .int (nI (k))), (3, .int (z)), (0, .ref (g 60)), (1, .int (c)), (2, .int (x))]) dd_Mo_overtaken_52 (Nat.le_of_ble_eq_true rfl) rfl ?_
            refine jj_iload_n 2 dd_Mo_overtaken_54 rfl ?_
            refine jj_if_ne (tgt := 96) dd_Mo_overtaken_55 (by decide) (fun h55 => ?_) (fun h55 => ?_)
            · skip
              refine jj_iconst (v := 1) dd_Mo_overtaken_96 rfl ?_
              refine jj_goto (tgt := 101) dd_Mo_overtaken_97 (by decide) ?_
              refine jj_istore_n (lv' := [(3, .int (1)), (5, .int (0)), (4, .int (nI (k))), (0, .ref (g 60)), (1, .int (c)), (2, .int (x))]) dd_Mo_overtaken_101 (Nat.le_of_ble_eq_true rfl) rfl ?_
              refine jj_iinc 2 (lv' := [(4, .int (nI (k + 1))), (3, .int (1)), (5, .int (0)), (0, .ref (g 60)), (1, .int (c)), (2, .int (x))]) dd_Mo_overtaken_102 rfl (nI_1 k) (Nat.le_of_ble_eq_true rfl) rfl ?_
              refine jj_goto (tgt := 5) dd_Mo_overtaken_105 (by decide) ?_
              refine jj_sub [0, 1, 3, 4, 5] rfl ?_
              exact ih _ _ (by omega) (by first | (simpa [ov_go, -Int32.not_lt, -Int32.not_le, h11, h22, h33, h55] using hq) | (exfalso; simp_all; done)) (by first | exact hz | exact Or.inl rfl | exact Or.inr rfl)
            · skip
              refine jj_aload_n 3 dd_Mo_overtaken_58 rfl ?_
              refine jj_rS (n := 72) hS dd_Mo_overtaken_59 ff_Mo_32 rfl (fun _ => rfl) rfl ?_
              refine jj_iload 1 dd_Mo_overtaken_62 rfl ?_
              refine jj_aS hS dd_Mo_overtaken_64 rfl (vp_in_nI (n := k) (by omega) (by decide)) (k) (nI_clamp (n := k) (by omega)) ?_
              refine jj_iload_n 4 dd_Mo_overtaken_65 rfl ?_
              refine jj_icmp_ne (tgt := 100) dd_Mo_overtaken_66 (by decide) (fun h66 => ?_) (fun h66 => ?_)
              · skip
                refine jj_iconst (v := 0) dd_Mo_overtaken_100 rfl ?_
                refine jj_istore_n (lv' := [(3, .int (0)), (5, .int (0)), (4, .int (nI (k))), (0, .ref (g 60)), (1, .int (c)), (2, .int (x))]) dd_Mo_overtaken_101 (Nat.le_of_ble_eq_true rfl) rfl ?_
                refine jj_iinc 2 (lv' := [(4, .int (nI (k + 1))), (3, .int (0)), (5, .int (0)), (0, .ref (g 60)), (1, .int (c)), (2, .int (x))]) dd_Mo_overtaken_102 rfl (nI_1 k) (Nat.le_of_ble_eq_true rfl) rfl ?_
                refine jj_goto (tgt := 5) dd_Mo_overtaken_105 (by decide) ?_
                refine jj_sub [0, 1, 3, 4, 5] rfl ?_
                exact ih _ _ (by omega) (by first | (simpa [ov_go, -Int32.not_lt, -Int32.not_le, h11, h22, h33, h55, h66] using hq) | (exfalso; simp_all; done)) (by first | exact hz | exact Or.inl rfl | exact Or.inr rfl)
              · skip
                refine jj_iload 0 dd_Mo_overtaken_69 rfl ?_
                refine jj_if_ne (tgt := 96) dd_Mo_overtaken_71 (by decide) (fun h => absurd h (by decide)) (fun _ => ?_)
                refine jj_aload_n 3 dd_Mo_overtaken_74 rfl ?_
                refine jj_rS (n := 75) hS dd_Mo_overtaken_75 ff_Mo_41 rfl (fun _ => rfl) rfl ?_
                refine jj_iload 1 dd_Mo_overtaken_78 rfl ?_
                refine jj_aS hS dd_Mo_overtaken_80 rfl (vp_in_nI (n := k) (by omega) (by decide)) (k) (nI_clamp (n := k) (by omega)) ?_
                refine jj_iconst (v := 3) dd_Mo_overtaken_81 rfl ?_
                refine jj_icmp_ne (tgt := 100) dd_Mo_overtaken_82 (by decide) (fun h82 => ?_) (fun h82 => ?_)
                · skip
                  refine jj_iconst (v := 0) dd_Mo_overtaken_100 rfl ?_
                  refine jj_istore_n (lv' := [(3, .int (0)), (5, .int (0)), (4, .int (nI (k))), (0, .ref (g 60)), (1, .int (c)), (2, .int (x))]) dd_Mo_overtaken_101 (Nat.le_of_ble_eq_true rfl) rfl ?_
                  refine jj_iinc 2 (lv' := [(4, .int (nI (k + 1))), (3, .int (0)), (5, .int (0)), (0, .ref (g 60)), (1, .int (c)), (2, .int (x))]) dd_Mo_overtaken_102 rfl (nI_1 k) (Nat.le_of_ble_eq_true rfl) rfl ?_
                  refine jj_goto (tgt := 5) dd_Mo_overtaken_105 (by decide) ?_
                  refine jj_sub [0, 1, 3, 4, 5] rfl ?_
                  exact ih _ _ (by omega) (by first | (simpa [ov_go, -Int32.not_lt, -Int32.not_le, h11, h22, h33, h55, h66, h82] using hq) | (exfalso; simp_all; done)) (by first | exact hz | exact Or.inl rfl | exact Or.inr rfl)
                · skip
                  refine jj_aload_n 3 dd_Mo_overtaken_85 rfl ?_
                  refine jj_rS (n := 74) hS dd_Mo_overtaken_86 ff_Mo_38 rfl (fun _ => rfl) rfl ?_
                  refine jj_iload 1 dd_Mo_overtaken_89 rfl ?_
                  refine jj_aS hS dd_Mo_overtaken_91 rfl (vp_in_nI (n := k) (by omega) (by decide)) (k) (nI_clamp (n := k) (by omega)) ?_
                  refine jj_iload_n 5 dd_Mo_overtaken_92 rfl ?_
                  refine jj_icmp_ne (tgt := 100) dd_Mo_overtaken_93 (by decide) (fun h93 => ?_) (fun h93 => ?_)
                  · skip
                    refine jj_iconst (v := 0) dd_Mo_overtaken_100 rfl ?_
                    refine jj_istore_n (lv' := [(3, .int (0)), (5, .int (0)), (4, .int (nI (k))), (0, .ref (g 60)), (1, .int (c)), (2, .int (x))]) dd_Mo_overtaken_101 (Nat.le_of_ble_eq_true rfl) rfl ?_
                    refine jj_iinc 2 (lv' := [(4, .int (nI (k + 1))), (3, .int (0)), (5, .int (0)), (0, .ref (g 60)), (1, .int (c)), (2, .int (x))]) dd_Mo_overtaken_102 rfl (nI_1 k) (Nat.le_of_ble_eq_true rfl) rfl ?_
                    refine jj_goto (tgt := 5) dd_Mo_overtaken_105 (by decide) ?_
                    refine jj_sub [0, 1, 3, 4, 5] rfl ?_
                    exact ih _ _ (by omega) (by first | (simpa [ov_go, -Int32.not_lt, -Int32.not_le, h11, h22, h33, h55, h66, h82, h93] using hq) | (exfalso; simp_all; done)) (by first | exact hz | exact Or.inl rfl | exact Or.inr rfl)
                  · skip
                    refine jj_iconst (v := 1) dd_Mo_overtaken_96 rfl ?_
                    refine jj_goto (tgt := 101) dd_Mo_overtaken_97 (by decide) ?_
                    refine jj_istore_n (lv' := [(3, .int (1)), (5, .int (0)), (4, .int (nI (k))), (0, .ref (g 60)), (1, .int (c)), (2, .int (x))]) dd_Mo_overtaken_101 (Nat.le_of_ble_eq_true rfl) rfl ?_
                    refine jj_iinc 2 (lv' := [(4, .int (nI (k + 1))), (3, .int (1)), (5, .int (0)), (0, .ref (g 60)), (1, .int (c)), (2, .int (x))]) dd_Mo_overtaken_102 rfl (nI_1 k) (Nat.le_of_ble_eq_true rfl) rfl ?_
                    refine jj_goto (tgt := 5) dd_Mo_overtaken_105 (by decide) ?_
                    refine jj_sub [0, 1, 3, 4, 5] rfl ?_
                    exact ih _ _ (by omega) (by first | (simpa [ov_go, -Int32.not_lt, -Int32.not_le, h11, h22, h33, h55, h66, h82, h93] using hq) | (exfalso; simp_all; done)) (by first | exact hz | exact Or.inl rfl | exact Or.inr rfl)
          · skip
            refine jj_aload_n 2 dd_Mo_overtaken_36 rfl ?_
            refine jj_rS (n := 73) hS dd_Mo_overtaken_37 ff_Mo_35 rfl (fun _ => rfl) rfl ?_
            refine jj_iload 0 dd_Mo_overtaken_40 rfl ?_
            refine jj_aS hS dd_Mo_overtaken_42 rfl (vp_in_nI (n := k) (by omega) (by decide)) (k) (nI_clamp (n := k) (by omega)) ?_
            refine jj_iload_n 4 dd_Mo_overtaken_43 rfl ?_
            refine jj_icmp_le (tgt := 51) dd_Mo_overtaken_44 (by decide) (fun h44 => ?_) (fun h44 => ?_)
            · skip
              refine jj_iconst (v := 0) dd_Mo_overtaken_51 rfl ?_
              refine jj_istore (lv' := [(5, .int (0)), (4, .int (nI (k))), (3, .int (z)), (0, .ref (g 60)), (1, .int (c)), (2, .int (x))]) dd_Mo_overtaken_52 (Nat.le_of_ble_eq_true rfl) rfl ?_
              refine jj_iload_n 2 dd_Mo_overtaken_54 rfl ?_
              refine jj_if_ne (tgt := 96) dd_Mo_overtaken_55 (by decide) (fun h55 => ?_) (fun h55 => ?_)
              · skip
                refine jj_iconst (v := 1) dd_Mo_overtaken_96 rfl ?_
                refine jj_goto (tgt := 101) dd_Mo_overtaken_97 (by decide) ?_
                refine jj_istore_n (lv' := [(3, .int (1)), (5, .int (0)), (4, .int (nI (k))), (0, .ref (g 60)), (1, .int (c)), (2, .int (x))]) dd_Mo_overtaken_101 (Nat.le_of_ble_eq_true rfl) rfl ?_
                refine jj_iinc 2 (lv' := [(4, .int (nI (k + 1))), (3, .int (1)), (5, .int (0)), (0, .ref (g 60)), (1, .int (c)), (2, .int (x))]) dd_Mo_overtaken_102 rfl (nI_1 k) (Nat.le_of_ble_eq_true rfl) rfl ?_
                refine jj_goto (tgt := 5) dd_Mo_overtaken_105 (by decide) ?_
                refine jj_sub [0, 1, 3, 4, 5] rfl ?_
                exact ih _ _ (by omega) (by first | (simpa [ov_go, -Int32.not_lt, -Int32.not_le, h11, h22, h33, h44, h55] using hq) | (exfalso; simp_all; done)) (by first | exact hz | exact Or.inl rfl | exact Or.inr rfl)
              · skip
                refine jj_aload_n 3 dd_Mo_overtaken_58 rfl ?_
                refine jj_rS (n := 72) hS dd_Mo_overtaken_59 ff_Mo_32 rfl (fun _ => rfl) rfl ?_
                refine jj_iload 1 dd_Mo_overtaken_62 rfl ?_
                refine jj_aS hS dd_Mo_overtaken_64 rfl (vp_in_nI (n := k) (by omega) (by decide)) (k) (nI_clamp (n := k) (by omega)) ?_
                refine jj_iload_n 4 dd_Mo_overtaken_65 rfl ?_
                refine jj_icmp_ne (tgt := 100) dd_Mo_overtaken_66 (by decide) (fun h66 => ?_) (fun h66 => ?_)
                · skip
                  refine jj_iconst (v := 0) dd_Mo_overtaken_100 rfl ?_
                  refine jj_istore_n (lv' := [(3, .int (0)), (5, .int (0)), (4, .int (nI (k))), (0, .ref (g 60)), (1, .int (c)), (2, .int (x))]) dd_Mo_overtaken_101 (Nat.le_of_ble_eq_true rfl) rfl ?_
                  refine jj_iinc 2 (lv' := [(4, .int (nI (k + 1))), (3, .int (0)), (5, .int (0)), (0, .ref (g 60)), (1, .int (c)), (2, .int (x))]) dd_Mo_overtaken_102 rfl (nI_1 k) (Nat.le_of_ble_eq_true rfl) rfl ?_
                  refine jj_goto (tgt := 5) dd_Mo_overtaken_105 (by decide) ?_
                  refine jj_sub [0, 1, 3, 4, 5] rfl ?_
                  exact ih _ _ (by omega) (by first | (simpa [ov_go, -Int32.not_lt, -Int32.not_le, h11, h22, h33, h44, h55, h66] using hq) | (exfalso; simp_all; done)) (by first | exact hz | exact Or.inl rfl | exact Or.inr rfl)
                · skip
                  refine jj_iload 0 dd_Mo_overtaken_69 rfl ?_
                  refine jj_if_ne (tgt := 96) dd_Mo_overtaken_71 (by decide) (fun h => absurd h (by decide)) (fun _ => ?_)
                  refine jj_aload_n 3 dd_Mo_overtaken_74 rfl ?_
                  refine jj_rS (n := 75) hS dd_Mo_overtaken_75 ff_Mo_41 rfl (fun _ => rfl) rfl ?_
                  refine jj_iload 1 dd_Mo_overtaken_78 rfl ?_
                  refine jj_aS hS dd_Mo_overtaken_80 rfl (vp_in_nI (n := k) (by omega) (by decide)) (k) (nI_clamp (n := k) (by omega)) ?_
                  refine jj_iconst (v := 3) dd_Mo_overtaken_81 rfl ?_
                  refine jj_icmp_ne (tgt := 100) dd_Mo_overtaken_82 (by decide) (fun h82 => ?_) (fun h82 => ?_)
                  · skip
                    refine jj_iconst (v := 0) dd_Mo_overtaken_100 rfl ?_
                    refine jj_istore_n (lv' := [(3, .int (0)), (5, .int (0)), (4, .int (nI (k))), (0, .ref (g 60)), (1, .int (c)), (2, .int (x))]) dd_Mo_overtaken_101 (Nat.le_of_ble_eq_true rfl) rfl ?_
                    refine jj_iinc 2 (lv' := [(4, .int (nI (k + 1))), (3, .int (0)), (5, .int (0)), (0, .ref (g 60)), (1, .int (c)), (2, .int (x))]) dd_Mo_overtaken_102 rfl (nI_1 k) (Nat.le_of_ble_eq_true rfl) rfl ?_
                    refine jj_goto (tgt := 5) dd_Mo_overtaken_105 (by decide) ?_
                    refine jj_sub [0, 1, 3, 4, 5] rfl ?_
                    exact ih _ _ (by omega) (by first | (simpa [ov_go, -Int32.not_lt, -Int32.not_le, h11, h22, h33, h44, h55, h66, h82] using hq) | (exfalso; simp_all; done)) (by first | exact hz | exact Or.inl rfl | exact Or.inr rfl)
                  · skip
                    refine jj_aload_n 3 dd_Mo_overtaken_85 rfl ?_
                    refine jj_rS (n := 74) hS dd_Mo_overtaken_86 ff_Mo_38 rfl (fun _ => rfl) rfl ?_
                    refine jj_iload 1 dd_Mo_overtaken_89 rfl ?_
                    refine jj_aS hS dd_Mo_overtaken_91 rfl (vp_in_nI (n := k) (by omega) (by decide)) (k) (nI_clamp (n := k) (by omega)) ?_
                    refine jj_iload_n 5 dd_Mo_overtaken_92 rfl ?_
                    refine jj_icmp_ne (tgt := 100) dd_Mo_overtaken_93 (by decide) (fun h93 => ?_) (fun h93 => ?_)
                    · skip
                      refine jj_iconst (v := 0) dd_Mo_overtaken_100 rfl ?_
                      refine jj_istore_n (lv' := [(3, .int (0)), (5, .int (0)), (4, .int (nI (k))), (0, .ref (g 60)), (1, .int (c)), (2, .int (x))]) dd_Mo_overtaken_101 (Nat.le_of_ble_eq_true rfl) rfl ?_
                      refine jj_iinc 2 (lv' := [(4, .int (nI (k + 1))), (3, .int (0)), (5, .int (0)), (0, .ref (g 60)), (1, .int (c)), (2, .int (x))]) dd_Mo_overtaken_102 rfl (nI_1 k) (Nat.le_of_ble_eq_true rfl) rfl ?_
                      refine jj_goto (tgt := 5) dd_Mo_overtaken_105 (by decide) ?_
                      refine jj_sub [0, 1, 3, 4, 5] rfl ?_
                      exact ih _ _ (by omega) (by first | (simpa [ov_go, -Int32.not_lt, -Int32.not_le, h11, h22, h33, h44, h55, h66, h82, h93] using hq) | (exfalso; simp_all; done)) (by first | exact hz | exact Or.inl rfl | exact Or.inr rfl)
                    · skip
                      refine jj_iconst (v := 1) dd_Mo_overtaken_96 rfl ?_
                      refine jj_goto (tgt := 101) dd_Mo_overtaken_97 (by decide) ?_
                      refine jj_istore_n (lv' := [(3, .int (1)), (5, .int (0)), (4, .int (nI (k))), (0, .ref (g 60)), (1, .int (c)), (2, .int (x))]) dd_Mo_overtaken_101 (Nat.le_of_ble_eq_true rfl) rfl ?_
                      refine jj_iinc 2 (lv' := [(4, .int (nI (k + 1))), (3, .int (1)), (5, .int (0)), (0, .ref (g 60)), (1, .int (c)), (2, .int (x))]) dd_Mo_overtaken_102 rfl (nI_1 k) (Nat.le_of_ble_eq_true rfl) rfl ?_
                      refine jj_goto (tgt := 5) dd_Mo_overtaken_105 (by decide) ?_
                      refine jj_sub [0, 1, 3, 4, 5] rfl ?_
                      exact ih _ _ (by omega) (by first | (simpa [ov_go, -Int32.not_lt, -Int32.not_le, h11, h22, h33, h44, h55, h66, h82, h93] using hq) | (exfalso; simp_all; done)) (by first | exact hz | exact Or.inl rfl | exact Or.inr rfl)
            · skip
              refine jj_iconst (v := 1) dd_Mo_overtaken_47 rfl ?_
              refine jj_goto (tgt := 52) dd_Mo_overtaken_48 (by decide) ?_
              refine jj_istore (lv' := [(5, .int (1)), (4, .int (nI (k))), (3, .int (z)), (0, .ref (g 60)), (1, .int (c)), (2, .int (x))]) dd_Mo_overtaken_52 (Nat.le_of_ble_eq_true rfl) rfl ?_
              refine jj_iload_n 2 dd_Mo_overtaken_54 rfl ?_
              refine jj_if_ne (tgt := 96) dd_Mo_overtaken_55 (by decide) (fun h55 => ?_) (fun h55 => ?_)
              · skip
                refine jj_iconst (v := 1) dd_Mo_overtaken_96 rfl ?_
                refine jj_goto (tgt := 101) dd_Mo_overtaken_97 (by decide) ?_
                refine jj_istore_n (lv' := [(3, .int (1)), (5, .int (1)), (4, .int (nI (k))), (0, .ref (g 60)), (1, .int (c)), (2, .int (x))]) dd_Mo_overtaken_101 (Nat.le_of_ble_eq_true rfl) rfl ?_
                refine jj_iinc 2 (lv' := [(4, .int (nI (k + 1))), (3, .int (1)), (5, .int (1)), (0, .ref (g 60)), (1, .int (c)), (2, .int (x))]) dd_Mo_overtaken_102 rfl (nI_1 k) (Nat.le_of_ble_eq_true rfl) rfl ?_
                refine jj_goto (tgt := 5) dd_Mo_overtaken_105 (by decide) ?_
                refine jj_sub [0, 1, 3, 4, 5] rfl ?_
                exact ih _ _ (by omega) (by first | (simpa [ov_go, -Int32.not_lt, -Int32.not_le, h11, h22, h33, h44, h55] using hq) | (exfalso; simp_all; done)) (by first | exact hz | exact Or.inl rfl | exact Or.inr rfl)
              · skip
                refine jj_aload_n 3 dd_Mo_overtaken_58 rfl ?_
                refine jj_rS (n := 72) hS dd_Mo_overtaken_59 ff_Mo_32 rfl (fun _ => rfl) rfl ?_
                refine jj_iload 1 dd_Mo_overtaken_62 rfl ?_
                refine jj_aS hS dd_Mo_overtaken_64 rfl (vp_in_nI (n := k) (by omega) (by decide)) (k) (nI_clamp (n := k) (by omega)) ?_
                refine jj_iload_n 4 dd_Mo_overtaken_65 rfl ?_
                refine jj_icmp_ne (tgt := 100) dd_Mo_overtaken_66 (by decide) (fun h66 => ?_) (fun h66 => ?_)
                · skip
                  refine jj_iconst (v := 0) dd_Mo_overtaken_100 rfl ?_
                  refine jj_istore_n (lv' := [(3, .int (0)), (5, .int (1)), (4, .int (nI (k))), (0, .ref (g 60)), (1, .int (c)), (2, .int (x))]) dd_Mo_overtaken_101 (Nat.le_of_ble_eq_true rfl) rfl ?_
                  refine jj_iinc 2 (lv' := [(4, .int (nI (k + 1))), (3, .int (0)), (5, .int (1)), (0, .ref (g 60)), (1, .int (c)), (2, .int (x))]) dd_Mo_overtaken_102 rfl (nI_1 k) (Nat.le_of_ble_eq_true rfl) rfl ?_
                  refine jj_goto (tgt := 5) dd_Mo_overtaken_105 (by decide) ?_
                  refine jj_sub [0, 1, 3, 4, 5] rfl ?_
                  exact ih _ _ (by omega) (by first | (simpa [ov_go, -Int32.not_lt, -Int32.not_le, h11, h22, h33, h44, h55, h66] using hq) | (exfalso; simp_all; done)) (by first | exact hz | exact Or.inl rfl | exact Or.inr rfl)
                · skip
                  refine jj_iload 0 dd_Mo_overtaken_69 rfl ?_
                  refine jj_if_ne (tgt := 96) dd_Mo_overtaken_71 (by decide) (fun _ => ?_) (fun h => absurd h (by decide))
                  refine jj_iconst (v := 1) dd_Mo_overtaken_96 rfl ?_
                  refine jj_goto (tgt := 101) dd_Mo_overtaken_97 (by decide) ?_
                  refine jj_istore_n (lv' := [(3, .int (1)), (5, .int (1)), (4, .int (nI (k))), (0, .ref (g 60)), (1, .int (c)), (2, .int (x))]) dd_Mo_overtaken_101 (Nat.le_of_ble_eq_true rfl) rfl ?_
                  refine jj_iinc 2 (lv' := [(4, .int (nI (k + 1))), (3, .int (1)), (5, .int (1)), (0, .ref (g 60)), (1, .int (c)), (2, .int (x))]) dd_Mo_overtaken_102 rfl (nI_1 k) (Nat.le_of_ble_eq_true rfl) rfl ?_
                  refine jj_goto (tgt := 5) dd_Mo_overtaken_105 (by decide) ?_
                  refine jj_sub [0, 1, 3, 4, 5] rfl ?_
                  exact ih _ _ (by omega) (by first | (simpa [ov_go, -Int32.not_lt, -Int32.not_le, h11, h22, h33, h44, h55, h66] using hq) | (exfalso; simp_all; done)) (by first | exact hz | exact Or.inl rfl | exact Or.inr rfl)
  refine jj_iconst (v := 0) dd_Mo_overtaken_0 rfl ?_
  refine jj_istore_n (lv' := [(3, .int (0)), (0, .ref (g 60)), (1, .int (c)), (2, .int (x))]) dd_Mo_overtaken_1 (Nat.le_of_ble_eq_true rfl) rfl ?_
  refine jj_iconst (v := 0) dd_Mo_overtaken_2 rfl ?_
  refine jj_istore (lv' := [(4, .int (0)), (3, .int (0)), (0, .ref (g 60)), (1, .int (c)), (2, .int (x))]) dd_Mo_overtaken_3 (Nat.le_of_ble_eq_true rfl) rfl ?_
  exact loop (rec_ S.1) 0 _ (by omega) hQ (Or.inl rfl)
set_option maxRecDepth 20000 in
theorem cs_Mo_latest {l : Launch} {g : Nat → Nat} {S : ss_} {Q : Option Value → ss_ → Prop} {c x : Int32} (hr : S.1 60 11 = nI (rec_ S.1)) (hr2 : rec_ S.1 ≤ 1540) (hQ : Q (some (.int (la_ S.1 c x))) S) : cs_ l yy_Mo_latest bb_Mo_latest 6 (some .int) 0 0 0 g [.ref (g 60), .int c, .int x] S Q := by
  intro M hS
  refine ct_of (by decide) (Nat.le_of_ble_eq_true rfl) (fun G A => ?_)
  have loop : ∀ (n k : Nat) (z : Int32), k + n = rec_ S.1 → Q (some (.int (la_go S.1 c x n k z))) S → ix_ z 1540 → jj_ l yy_Mo_latest bb_Mo_latest 6 (some .int) G (mm_R 0 0 0) A (mm_ret (qs_ g Q)) 0 0 5 [(4, .int (nI (k))), (3, .int (z)), (0, .ref (g 60)), (1, .int (c)), (2, .int (x))] [] M := by
    intro n
    induction n with
    | zero =>
      intro k z hk hq hz
      have hk : k = rec_ S.1 := by omega
      subst hk
      refine jj_iload 0 dd_Mo_latest_5 rfl ?_
      refine jj_aload_n 2 dd_Mo_latest_7 rfl ?_
      refine jj_gS hS dd_Mo_latest_8 ff_Mo_99 rfl (fun _ => rfl) ?_
      refine jj_ti (x' := nI (rec_ S.1)) hr ?_
      refine jj_icmp_ge (tgt := 103) dd_Mo_latest_11 (by decide) (fun h11 => ?_) (fun h11 => ?_)
      · skip
        refine jj_iload_n 1 dd_Mo_latest_103 rfl ?_
        refine jj_iret dd_Mo_latest_104 rfl rfl ?_
        exact ⟨_, hS, hq⟩
      · exact absurd (mm_le (fun h => absurd h (mm_nlt (mm_rfl _)))) h11
    | succ n ih =>
      intro k z hk hq hz
      refine jj_iload 0 dd_Mo_latest_5 rfl ?_
      refine jj_aload_n 2 dd_Mo_latest_7 rfl ?_
      refine jj_gS hS dd_Mo_latest_8 ff_Mo_99 rfl (fun _ => rfl) ?_
      refine jj_ti (x' := nI (rec_ S.1)) hr ?_
      refine jj_icmp_ge (tgt := 103) dd_Mo_latest_11 (by decide) (fun h11 => ?_) (fun h11 => ?_)
      · exact absurd h11 (nI_ge (by omega) (by omega))
      · skip
        refine jj_aload_n 2 dd_Mo_latest_14 rfl ?_
        refine jj_rS (n := 72) hS dd_Mo_latest_15 ff_Mo_32 rfl (fun _ => rfl) rfl ?_
        refine jj_iload 0 dd_Mo_latest_18 rfl ?_
        refine jj_aS hS dd_Mo_latest_20 rfl (vp_in_nI (n := k) (by omega) (by decide)) (k) (nI_clamp (n := k) (by omega)) ?_
        refine jj_iload_n 3 dd_Mo_latest_21 rfl ?_
        refine jj_icmp_ne (tgt := 62) dd_Mo_latest_22 (by decide) (fun h22 => ?_) (fun h22 => ?_)
        · skip
          refine jj_iconst (v := 0) dd_Mo_latest_62 rfl ?_
          refine jj_istore (lv' := [(5, .int (0)), (4, .int (nI (k))), (3, .int (z)), (0, .ref (g 60)), (1, .int (c)), (2, .int (x))]) dd_Mo_latest_63 (Nat.le_of_ble_eq_true rfl) rfl ?_
          refine jj_iload 0 dd_Mo_latest_65 rfl ?_
          refine jj_if_eq (tgt := 95) dd_Mo_latest_67 (by decide) (fun _ => ?_) (fun h => absurd h (by decide))
          refine jj_iload_n 2 dd_Mo_latest_95 rfl ?_
          refine jj_istore_n (lv' := [(3, .int (z)), (5, .int (0)), (4, .int (nI (k))), (0, .ref (g 60)), (1, .int (c)), (2, .int (x))]) dd_Mo_latest_96 (Nat.le_of_ble_eq_true rfl) rfl ?_
          refine jj_iinc 2 (lv' := [(4, .int (nI (k + 1))), (3, .int (z)), (5, .int (0)), (0, .ref (g 60)), (1, .int (c)), (2, .int (x))]) dd_Mo_latest_97 rfl (nI_1 k) (Nat.le_of_ble_eq_true rfl) rfl ?_
          refine jj_goto (tgt := 5) dd_Mo_latest_100 (by decide) ?_
          refine jj_sub [0, 1, 3, 4, 5] rfl ?_
          exact ih _ _ (by omega) (by first | (simpa [la_go, -Int32.not_lt, -Int32.not_le, h11, h22] using hq) | (exfalso; simp_all; done)) (by first | exact hz | exact Or.inr (vp_in_nI (n := k) (by omega) (by decide)))
        · skip
          refine jj_aload_n 2 dd_Mo_latest_25 rfl ?_
          refine jj_rS (n := 75) hS dd_Mo_latest_26 ff_Mo_41 rfl (fun _ => rfl) rfl ?_
          refine jj_iload 0 dd_Mo_latest_29 rfl ?_
          refine jj_aS hS dd_Mo_latest_31 rfl (vp_in_nI (n := k) (by omega) (by decide)) (k) (nI_clamp (n := k) (by omega)) ?_
          refine jj_iconst (v := 1) dd_Mo_latest_32 rfl ?_
          refine jj_icmp_eq (tgt := 47) dd_Mo_latest_33 (by decide) (fun h33 => ?_) (fun h33 => ?_)
          · skip
            refine jj_aload_n 2 dd_Mo_latest_47 rfl ?_
            refine jj_rS (n := 73) hS dd_Mo_latest_48 ff_Mo_35 rfl (fun _ => rfl) rfl ?_
            refine jj_iload 0 dd_Mo_latest_51 rfl ?_
            refine jj_aS hS dd_Mo_latest_53 rfl (vp_in_nI (n := k) (by omega) (by decide)) (k) (nI_clamp (n := k) (by omega)) ?_
            refine jj_iload_n 4 dd_Mo_latest_54 rfl ?_
            refine jj_icmp_ge (tgt := 62) dd_Mo_latest_55 (by decide) (fun h55 => ?_) (fun h55 => ?_)
            · skip
              refine jj_iconst (v := 0) dd_Mo_latest_62 rfl ?_
              refine jj_istore (lv' := [(5, .int (0)), (4, .int (nI (k))), (3, .int (z)), (0, .ref (g 60)), (1, .int (c)), (2, .int (x))]) dd_Mo_latest_63 (Nat.le_of_ble_eq_true rfl) rfl ?_
              refine jj_iload 0 dd_Mo_latest_65 rfl ?_
              refine jj_if_eq (tgt := 95) dd_Mo_latest_67 (by decide) (fun _ => ?_) (fun h => absurd h (by decide))
              refine jj_iload_n 2 dd_Mo_latest_95 rfl ?_
              refine jj_istore_n (lv' := [(3, .int (z)), (5, .int (0)), (4, .int (nI (k))), (0, .ref (g 60)), (1, .int (c)), (2, .int (x))]) dd_Mo_latest_96 (Nat.le_of_ble_eq_true rfl) rfl ?_
              refine jj_iinc 2 (lv' := [(4, .int (nI (k + 1))), (3, .int (z)), (5, .int (0)), (0, .ref (g 60)), (1, .int (c)), (2, .int (x))]) dd_Mo_latest_97 rfl (nI_1 k) (Nat.le_of_ble_eq_true rfl) rfl ?_
              refine jj_goto (tgt := 5) dd_Mo_latest_100 (by decide) ?_
              refine jj_sub [0, 1, 3, 4, 5] rfl ?_
              exact ih _ _ (by omega) (by first | (simpa [la_go, -Int32.not_lt, -Int32.not_le, h11, h22, h33, h55] using hq) | (exfalso; simp_all; done)) (by first | exact hz | exact Or.inr (vp_in_nI (n := k) (by omega) (by decide)))
            · skip
              refine jj_iconst (v := 1) dd_Mo_latest_58 rfl ?_
              refine jj_goto (tgt := 63) dd_Mo_latest_59 (by decide) ?_
              refine jj_istore (lv' := [(5, .int (1)), (4, .int (nI (k))), (3, .int (z)), (0, .ref (g 60)), (1, .int (c)), (2, .int (x))]) dd_Mo_latest_63 (Nat.le_of_ble_eq_true rfl) rfl ?_
              refine jj_iload 0 dd_Mo_latest_65 rfl ?_
              refine jj_if_eq (tgt := 95) dd_Mo_latest_67 (by decide) (fun h => absurd h (by decide)) (fun _ => ?_)
              refine jj_iload_n 2 dd_Mo_latest_70 rfl ?_
              refine jj_if_lt (tgt := 90) dd_Mo_latest_71 (by decide) (fun h71 => ?_) (fun h71 => ?_)
              · skip
                refine jj_iload 1 dd_Mo_latest_90 rfl ?_
                refine jj_goto (tgt := 96) dd_Mo_latest_92 (by decide) ?_
                refine jj_istore_n (lv' := [(3, .int (nI (k))), (5, .int (1)), (4, .int (nI (k))), (0, .ref (g 60)), (1, .int (c)), (2, .int (x))]) dd_Mo_latest_96 (Nat.le_of_ble_eq_true rfl) rfl ?_
                refine jj_iinc 2 (lv' := [(4, .int (nI (k + 1))), (3, .int (nI (k))), (5, .int (1)), (0, .ref (g 60)), (1, .int (c)), (2, .int (x))]) dd_Mo_latest_97 rfl (nI_1 k) (Nat.le_of_ble_eq_true rfl) rfl ?_
                refine jj_goto (tgt := 5) dd_Mo_latest_100 (by decide) ?_
                refine jj_sub [0, 1, 3, 4, 5] rfl ?_
                exact ih _ _ (by omega) (by first | (simpa [la_go, -Int32.not_lt, -Int32.not_le, h11, h22, h33, h55, h71] using hq) | (exfalso; simp_all; done)) (by first | exact hz | exact Or.inr (vp_in_nI (n := k) (by omega) (by decide)))
              · skip
                refine jj_aload_n 3 dd_Mo_latest_74 rfl ?_
                refine jj_rS (n := 73) hS dd_Mo_latest_75 ff_Mo_35 rfl (fun _ => rfl) rfl ?_
                refine jj_iload 1 dd_Mo_latest_78 rfl ?_
                refine jj_aS hS dd_Mo_latest_80 rfl (vp_in_nI (n := k) (by omega) (by decide)) (k) (nI_clamp (n := k) (by omega)) ?_
                refine jj_aload_n 3 dd_Mo_latest_81 rfl ?_
                refine jj_rS (n := 73) hS dd_Mo_latest_82 ff_Mo_35 rfl (fun _ => rfl) rfl ?_
                refine jj_iload_n 2 dd_Mo_latest_85 rfl ?_
                refine jj_aS hS dd_Mo_latest_86 rfl (ix_in hz h71) (z.toNatClampNeg) rfl ?_
                refine jj_icmp_le (tgt := 95) dd_Mo_latest_87 (by decide) (fun h87 => ?_) (fun h87 => ?_)
                · skip
                  refine jj_iload_n 2 dd_Mo_latest_95 rfl ?_
                  refine jj_istore_n (lv' := [(3, .int (z)), (5, .int (1)), (4, .int (nI (k))), (0, .ref (g 60)), (1, .int (c)), (2, .int (x))]) dd_Mo_latest_96 (Nat.le_of_ble_eq_true rfl) rfl ?_
                  refine jj_iinc 2 (lv' := [(4, .int (nI (k + 1))), (3, .int (z)), (5, .int (1)), (0, .ref (g 60)), (1, .int (c)), (2, .int (x))]) dd_Mo_latest_97 rfl (nI_1 k) (Nat.le_of_ble_eq_true rfl) rfl ?_
                  refine jj_goto (tgt := 5) dd_Mo_latest_100 (by decide) ?_
                  refine jj_sub [0, 1, 3, 4, 5] rfl ?_
                  exact ih _ _ (by omega) (by first | (simpa [la_go, -Int32.not_lt, -Int32.not_le, h11, h22, h33, h55, h71, h87] using hq) | (exfalso; simp_all; done)) (by first | exact hz | exact Or.inr (vp_in_nI (n := k) (by omega) (by decide)))
                · skip
                  refine jj_iload 1 dd_Mo_latest_90 rfl ?_
                  refine jj_goto (tgt := 96) dd_Mo_latest_92 (by decide) ?_
                  refine jj_istore_n (lv' := [(3, .int (nI (k))), (5, .int (1)), (4, .int (nI (k))), (0, .ref (g 60)), (1, .int (c)), (2, .int (x))]) dd_Mo_latest_96 (Nat.le_of_ble_eq_true rfl) rfl ?_
                  refine jj_iinc 2 (lv' := [(4, .int (nI (k + 1))), (3, .int (nI (k))), (5, .int (1)), (0, .ref (g 60)), (1, .int (c)), (2, .int (x))]) dd_Mo_latest_97 rfl (nI_1 k) (Nat.le_of_ble_eq_true rfl) rfl ?_
                  refine jj_goto (tgt := 5) dd_Mo_latest_100 (by decide) ?_
                  refine jj_sub [0, 1, 3, 4, 5] rfl ?_
                  exact ih _ _ (by omega) (by first | (simpa [la_go, -Int32.not_lt, -Int32.not_le, h11, h22, h33, h55, h71, h87] using hq) | (exfalso; simp_all; done)) (by first | exact hz | exact Or.inr (vp_in_nI (n := k) (by omega) (by decide)))
          · skip
            refine jj_aload_n 2 dd_Mo_latest_36 rfl ?_
            refine jj_rS (n := 75) hS dd_Mo_latest_37 ff_Mo_41 rfl (fun _ => rfl) rfl ?_
            refine jj_iload 0 dd_Mo_latest_40 rfl ?_
            refine jj_aS hS dd_Mo_latest_42 rfl (vp_in_nI (n := k) (by omega) (by decide)) (k) (nI_clamp (n := k) (by omega)) ?_
            refine jj_iconst (v := 2) dd_Mo_latest_43 rfl ?_
            refine jj_icmp_ne (tgt := 62) dd_Mo_latest_44 (by decide) (fun h44 => ?_) (fun h44 => ?_)
            · skip
              refine jj_iconst (v := 0) dd_Mo_latest_62 rfl ?_
              refine jj_istore (lv' := [(5, .int (0)), (4, .int (nI (k))), (3, .int (z)), (0, .ref (g 60)), (1, .int (c)), (2, .int (x))]) dd_Mo_latest_63 (Nat.le_of_ble_eq_true rfl) rfl ?_
              refine jj_iload 0 dd_Mo_latest_65 rfl ?_
              refine jj_if_eq (tgt := 95) dd_Mo_latest_67 (by decide) (fun _ => ?_) (fun h => absurd h (by decide))
              refine jj_iload_n 2 dd_Mo_latest_95 rfl ?_
              refine jj_istore_n (lv' := [(3, .int (z)), (5, .int (0)), (4, .int (nI (k))), (0, .ref (g 60)), (1, .int (c)), (2, .int (x))]) dd_Mo_latest_96 (Nat.le_of_ble_eq_true rfl) rfl ?_
              refine jj_iinc 2 (lv' := [(4, .int (nI (k + 1))), (3, .int (z)), (5, .int (0)), (0, .ref (g 60)), (1, .int (c)), (2, .int (x))]) dd_Mo_latest_97 rfl (nI_1 k) (Nat.le_of_ble_eq_true rfl) rfl ?_
              refine jj_goto (tgt := 5) dd_Mo_latest_100 (by decide) ?_
              refine jj_sub [0, 1, 3, 4, 5] rfl ?_
              exact ih _ _ (by omega) (by first | (simpa [la_go, -Int32.not_lt, -Int32.not_le, h11, h22, h33, h44] using hq) | (exfalso; simp_all; done)) (by first | exact hz | exact Or.inr (vp_in_nI (n := k) (by omega) (by decide)))
            · skip
              refine jj_aload_n 2 dd_Mo_latest_47 rfl ?_
              refine jj_rS (n := 73) hS dd_Mo_latest_48 ff_Mo_35 rfl (fun _ => rfl) rfl ?_
              refine jj_iload 0 dd_Mo_latest_51 rfl ?_
              refine jj_aS hS dd_Mo_latest_53 rfl (vp_in_nI (n := k) (by omega) (by decide)) (k) (nI_clamp (n := k) (by omega)) ?_
              refine jj_iload_n 4 dd_Mo_latest_54 rfl ?_
              refine jj_icmp_ge (tgt := 62) dd_Mo_latest_55 (by decide) (fun h55 => ?_) (fun h55 => ?_)
              · skip
                refine jj_iconst (v := 0) dd_Mo_latest_62 rfl ?_
                refine jj_istore (lv' := [(5, .int (0)), (4, .int (nI (k))), (3, .int (z)), (0, .ref (g 60)), (1, .int (c)), (2, .int (x))]) dd_Mo_latest_63 (Nat.le_of_ble_eq_true rfl) rfl ?_
                refine jj_iload 0 dd_Mo_latest_65 rfl ?_
                refine jj_if_eq (tgt := 95) dd_Mo_latest_67 (by decide) (fun _ => ?_) (fun h => absurd h (by decide))
                refine jj_iload_n 2 dd_Mo_latest_95 rfl ?_
                refine jj_istore_n (lv' := [(3, .int (z)), (5, .int (0)), (4, .int (nI (k))), (0, .ref (g 60)), (1, .int (c)), (2, .int (x))]) dd_Mo_latest_96 (Nat.le_of_ble_eq_true rfl) rfl ?_
                refine jj_iinc 2 (lv' := [(4, .int (nI (k + 1))), (3, .int (z)), (5, .int (0)), (0, .ref (g 60)), (1, .int (c)), (2, .int (x))]) dd_Mo_latest_97 rfl (nI_1 k) (Nat.le_of_ble_eq_true rfl) rfl ?_
                refine jj_goto (tgt := 5) dd_Mo_latest_100 (by decide) ?_
                refine jj_sub [0, 1, 3, 4, 5] rfl ?_
                exact ih _ _ (by omega) (by first | (simpa [la_go, -Int32.not_lt, -Int32.not_le, h11, h22, h33, h44, h55] using hq) | (exfalso; simp_all; done)) (by first | exact hz | exact Or.inr (vp_in_nI (n := k) (by omega) (by decide)))
              · skip
                refine jj_iconst (v := 1) dd_Mo_latest_58 rfl ?_
                refine jj_goto (tgt := 63) dd_Mo_latest_59 (by decide) ?_
                refine jj_istore (lv' := [(5, .int (1)), (4, .int (nI (k))), (3, .int (z)), (0, .ref (g 60)), (1, .int (c)), (2, .int (x))]) dd_Mo_latest_63 (Nat.le_of_ble_eq_true rfl) rfl ?_
                refine jj_iload 0 dd_Mo_latest_65 rfl ?_
                refine jj_if_eq (tgt := 95) dd_Mo_latest_67 (by decide) (fun h => absurd h (by decide)) (fun _ => ?_)
                refine jj_iload_n 2 dd_Mo_latest_70 rfl ?_
                refine jj_if_lt (tgt := 90) dd_Mo_latest_71 (by decide) (fun h71 => ?_) (fun h71 => ?_)
                · skip
                  refine jj_iload 1 dd_Mo_latest_90 rfl ?_
                  refine jj_goto (tgt := 96) dd_Mo_latest_92 (by decide) ?_
                  refine jj_istore_n (lv' := [(3, .int (nI (k))), (5, .int (1)), (4, .int (nI (k))), (0, .ref (g 60)), (1, .int (c)), (2, .int (x))]) dd_Mo_latest_96 (Nat.le_of_ble_eq_true rfl) rfl ?_
                  refine jj_iinc 2 (lv' := [(4, .int (nI (k + 1))), (3, .int (nI (k))), (5, .int (1)), (0, .ref (g 60)), (1, .int (c)), (2, .int (x))]) dd_Mo_latest_97 rfl (nI_1 k) (Nat.le_of_ble_eq_true rfl) rfl ?_
                  refine jj_goto (tgt := 5) dd_Mo_latest_100 (by decide) ?_
                  refine jj_sub [0, 1, 3, 4, 5] rfl ?_
                  exact ih _ _ (by omega) (by first | (simpa [la_go, -Int32.not_lt, -Int32.not_le, h11, h22, h33, h44, h55, h71] using hq) | (exfalso; simp_all; done)) (by first | exact hz | exact Or.inr (vp_in_nI (n := k) (by omega) (by decide)))
                · skip
                  refine jj_aload_n 3 dd_Mo_latest_74 rfl ?_
                  refine jj_rS (n := 73) hS dd_Mo_latest_75 ff_Mo_35 rfl (fun _ => rfl) rfl ?_
                  refine jj_iload 1 dd_Mo_latest_78 rfl ?_
                  refine jj_aS hS dd_Mo_latest_80 rfl (vp_in_nI (n := k) (by omega) (by decide)) (k) (nI_clamp (n := k) (by omega)) ?_
                  refine jj_aload_n 3 dd_Mo_latest_81 rfl ?_
                  refine jj_rS (n := 73) hS dd_Mo_latest_82 ff_Mo_35 rfl (fun _ => rfl) rfl ?_
                  refine jj_iload_n 2 dd_Mo_latest_85 rfl ?_
                  refine jj_aS hS dd_Mo_latest_86 rfl (ix_in hz h71) (z.toNatClampNeg) rfl ?_
                  refine jj_icmp_le (tgt := 95) dd_Mo_latest_87 (by decide) (fun h87 => ?_) (fun h87 => ?_)
                  · skip
                    refine jj_iload_n 2 dd_Mo_latest_95 rfl ?_
                    refine jj_istore_n (lv' := [(3, .int (z)), (5, .int (1)), (4, .int (nI (k))), (0, .ref (g 60)), (1, .int (c)), (2, .int (x))]) dd_Mo_latest_96 (Nat.le_of_ble_eq_true rfl) rfl ?_
                    refine jj_iinc 2 (lv' := [(4, .int (nI (k + 1))), (3, .int (z)), (5, .int (1)), (0, .ref (g 60)), (1, .int (c)), (2, .int (x))]) dd_Mo_latest_97 rfl (nI_1 k) (Nat.le_of_ble_eq_true rfl) rfl ?_
                    refine jj_goto (tgt := 5) dd_Mo_latest_100 (by decide) ?_
                    refine jj_sub [0, 1, 3, 4, 5] rfl ?_
                    exact ih _ _ (by omega) (by first | (simpa [la_go, -Int32.not_lt, -Int32.not_le, h11, h22, h33, h44, h55, h71, h87] using hq) | (exfalso; simp_all; done)) (by first | exact hz | exact Or.inr (vp_in_nI (n := k) (by omega) (by decide)))
                  · skip
                    refine jj_iload 1 dd_Mo_latest_90 rfl ?_
                    refine jj_goto (tgt := 96) dd_Mo_latest_92 (by decide) ?_
                    refine jj_istore_n (lv' := [(3, .int (nI (k))), (5, .int (1)), (4, .int (nI (k))), (0, .ref (g 60)), (1, .int (c)), (2, .int (x))]) dd_Mo_latest_96 (Nat.le_of_ble_eq_true rfl) rfl ?_
                    refine jj_iinc 2 (lv' := [(4, .int (nI (k + 1))), (3, .int (nI (k))), (5, .int (1)), (0, .ref (g 60)), (1, .int (c)), (2, .int (x))]) dd_Mo_latest_97 rfl (nI_1 k) (Nat.le_of_ble_eq_true rfl) rfl ?_
                    refine jj_goto (tgt := 5) dd_Mo_latest_100 (by decide) ?_
                    refine jj_sub [0, 1, 3, 4, 5] rfl ?_
                    exact ih _ _ (by omega) (by first | (simpa [la_go, -Int32.not_lt, -Int32.not_le, h11, h22, h33, h44, h55, h71, h87] using hq) | (exfalso; simp_all; done)) (by first | exact hz | exact Or.inr (vp_in_nI (n := k) (by omega) (by decide)))
  refine jj_iconst (v := (-1)) dd_Mo_latest_0 rfl ?_
  refine jj_istore_n (lv' := [(3, .int ((-1))), (0, .ref (g 60)), (1, .int (c)), (2, .int (x))]) dd_Mo_latest_1 (Nat.le_of_ble_eq_true rfl) rfl ?_
  refine jj_iconst (v := 0) dd_Mo_latest_2 rfl ?_
  refine jj_istore (lv' := [(4, .int (0)), (3, .int ((-1))), (0, .ref (g 60)), (1, .int (c)), (2, .int (x))]) dd_Mo_latest_3 (Nat.le_of_ble_eq_true rfl) rfl ?_
  exact loop (rec_ S.1) 0 _ (by omega) hQ (Or.inl (by decide))
end
section
theorem rec_of {F : Nat → Nat → Int32} {k : Nat} (h : F 60 11 = nI k) (hk : k < 2 ^ 31) : rec_ F = k := by
  unfold rec_
  rw [h]
  exact nI_clamp hk
theorem vo_rk {F : Nat → Nat → Int32} {i k : Nat} {x : Int32} (h : F 60 11 = nI k) : vo_F F i x 60 11 = nI k ∨ vo_F F i x 60 11 = nI (k + 1) := by
  unfold vo_F
  split
  · exact Or.inl ((en_oth _ _ _ _ (by omega)).trans h)
  · right
    simp [uf_at, pu_F, en_oth, h, nI_1]
theorem dn_rk {F : Nat → Nat → Int32} {i k : Nat} {x : Int32} (h : F 60 11 = nI k) : dn_F F i x 60 11 = nI k ∨ dn_F F i x 60 11 = nI (k + 1) := by
  unfold dn_F
  split
  · exact Or.inl ((en_oth _ _ _ _ (by omega)).trans h)
  · right
    simp [uf_at, pu_F, en_oth, h, nI_1]
theorem vo_rec {F : Nat → Nat → Int32} {i : Nat} {x : Int32} (h : F 60 11 = nI (rec_ F)) (hk : rec_ F < 5000) : vo_F F i x 60 11 = nI (rec_ (vo_F F i x)) ∧ rec_ (vo_F F i x) ≤ rec_ F + 1 := by
  rcases vo_rk (i := i) (x := x) h with e | e
  · have e2 := rec_of e (by omega)
    exact ⟨by rw [e2]; exact e, by omega⟩
  · have e2 := rec_of e (by omega)
    exact ⟨by rw [e2]; exact e, by omega⟩
theorem dn_rec {F : Nat → Nat → Int32} {i : Nat} {x : Int32} (h : F 60 11 = nI (rec_ F)) (hk : rec_ F < 5000) : dn_F F i x 60 11 = nI (rec_ (dn_F F i x)) ∧ rec_ (dn_F F i x) ≤ rec_ F + 1 := by
  rcases dn_rk (i := i) (x := x) h with e | e
  · have e2 := rec_of e (by omega)
    exact ⟨by rw [e2]; exact e, by omega⟩
  · have e2 := rec_of e (by omega)
    exact ⟨by rw [e2]; exact e, by omega⟩
def cl_ (F : Nat → Nat → Int32) (i p c : Nat) (K : Int32 → (Nat → Nat → Int32) → Prop) : Prop :=
  if F 77 (p / 4) = 0 then
    if dc_ F (nI p) (F 65 i) ≤ 0 then
      if F 65 p = F 65 i then
        if ls_ F p c = 0 then K 1 F
        else if vo_r F p (F 65 i) = 0 then K 0 (vo_F F p (F 65 i))
        else if nI p = nI i then K 3 (vo_F F p (F 65 i))
        else if vo_r (vo_F F p (F 65 i)) i (F 65 i) = 0 then K 0 (vo_F (vo_F F p (F 65 i)) i (F 65 i)) else K 3 (vo_F (vo_F F p (F 65 i)) i (F 65 i))
      else if vo_r F i (F 65 i) = 0 then K 0 (vo_F F i (F 65 i)) else K 3 (vo_F F i (F 65 i))
    else if dn_r F i (dc_ F (nI p) (F 65 i)) = 0 then K 0 (dn_F F i (dc_ F (nI p) (F 65 i))) else K 2 (dn_F F i (dc_ F (nI p) (F 65 i)))
  else K 0 F
set_option maxRecDepth 20000 in
theorem cs_Mo_clearing {l : Launch} {g : Nat → Nat} {S : ss_} {Q : Option Value → ss_ → Prop} {i p c : Nat} (hi : i < 12) (hp : S.1 66 i = nI p) (hp2 : p < 12) (ho : S.1 67 p = nI c) (hc : c < 4) (hr : S.1 60 11 = nI (rec_ S.1)) (hr2 : rec_ S.1 < 1538) (hQ : cl_ S.1 i p c (fun r F => Q (some (.int r)) (F, S.2))) : cs_ l yy_Mo_clearing bb_Mo_clearing 5 (some .int) 2 0 0 g [.ref (g 60), .int (nI i)] S Q := by
  intro M hS
  refine ct_of (by decide) (Nat.le_of_ble_eq_true rfl) (fun G A => ?_)
  unfold cl_ at hQ
  refine jj_aload_n 0 dd_Mo_clearing_0 rfl ?_
  refine jj_rS (n := 65) hS dd_Mo_clearing_1 ff_Mo_13 rfl (fun _ => rfl) rfl ?_
  refine jj_iload_n 1 dd_Mo_clearing_4 rfl ?_
  refine jj_aS hS dd_Mo_clearing_5 rfl (vp_in_nI (n := i) (by omega) (by decide)) (i) (nI_clamp (n := i) (by omega)) ?_
  refine jj_istore_n (lv' := [(2, .int _), (0, .ref (g 60)), (1, .int (nI (i)))]) dd_Mo_clearing_6 (Nat.le_of_ble_eq_true rfl) rfl ?_
  refine jj_aload_n 1 dd_Mo_clearing_7 rfl ?_
  refine jj_rS (n := 66) hS dd_Mo_clearing_8 ff_Mo_17 rfl (fun _ => rfl) rfl ?_
  refine jj_iload_n 2 dd_Mo_clearing_11 rfl ?_
  refine jj_aS hS dd_Mo_clearing_12 rfl (vp_in_nI (n := i) (by omega) (by decide)) (i) (nI_clamp (n := i) (by omega)) ?_
  refine jj_ti (x' := nI (p)) hp ?_
  refine jj_istore_n (lv' := [(3, .int (nI (p))), (2, .int _), (0, .ref (g 60)), (1, .int (nI (i)))]) dd_Mo_clearing_13 (Nat.le_of_ble_eq_true rfl) rfl ?_
  refine jj_aload_n 2 dd_Mo_clearing_14 rfl ?_
  refine jj_rS (n := 77) hS dd_Mo_clearing_15 ff_Mo_47 rfl (fun _ => rfl) rfl ?_
  refine jj_iload_n 0 dd_Mo_clearing_18 rfl ?_
  refine jj_iconst (v := 4) dd_Mo_clearing_19 rfl ?_
  refine jj_idiv dd_Mo_clearing_20 (by decide) ?_
  refine jj_ti (x' := nI ((p) / 4)) (pk_div (a := p) (d := 4) (by omega) (by decide) (by decide)) ?_
  refine jj_zS hS dd_Mo_clearing_21 rfl (vp_in_nI (n := (p) / 4) (by omega) (by decide)) ((p) / 4) (nI_clamp (n := (p) / 4) (by omega)) ?_
  refine jj_if_eq (tgt := 27) dd_Mo_clearing_22 (by decide) (fun h22 => ?_) (fun h22 => ?_)
  · skip
    refine jj_aload_n 2 dd_Mo_clearing_27 rfl ?_
    refine jj_iload_n 0 dd_Mo_clearing_28 rfl ?_
    refine jj_iload_n 1 dd_Mo_clearing_29 rfl ?_
    refine jj_callV (ci := 7) [_, _] [] 0 0 dd_Mo_clearing_30 cs_Mo_113 ci_Mo_113 (hS.1.1 60 _ rfl) ⟨by decide, rfl⟩ rfl (Nat.le_of_ble_eq_true rfl) ⟨(Nat.le_of_ble_eq_true rfl), (Nat.le_of_ble_eq_true rfl)⟩ ⟨(Nat.le_of_ble_eq_true rfl), (Nat.le_of_ble_eq_true rfl)⟩ rfl (cs_use (cs_Mo_decision hr (by omega) (fun M hS => ?_)) hS)
    refine jj_istore (lv' := [(4, .int _), (3, .int (nI (p))), (2, .int _), (0, .ref (g 60)), (1, .int (nI (i)))]) dd_Mo_clearing_33 (Nat.le_of_ble_eq_true rfl) rfl ?_
    refine jj_iload 0 dd_Mo_clearing_35 rfl ?_
    refine jj_if_le (tgt := 56) dd_Mo_clearing_37 (by decide) (fun h37 => ?_) (fun h37 => ?_)
    · skip
      refine jj_aload_n 3 dd_Mo_clearing_56 rfl ?_
      refine jj_rS (n := 65) hS dd_Mo_clearing_57 ff_Mo_13 rfl (fun _ => rfl) rfl ?_
      refine jj_iload_n 1 dd_Mo_clearing_60 rfl ?_
      refine jj_aS hS dd_Mo_clearing_61 rfl (vp_in_nI (n := p) (by omega) (by decide)) (p) (nI_clamp (n := p) (by omega)) ?_
      refine jj_iload_n 2 dd_Mo_clearing_62 rfl ?_
      refine jj_icmp_ne (tgt := 94) dd_Mo_clearing_63 (by decide) (fun h63 => ?_) (fun h63 => ?_)
      · skip
        refine jj_aload_n 3 dd_Mo_clearing_94 rfl ?_
        refine jj_iload_n 4 dd_Mo_clearing_95 rfl ?_
        refine jj_iload_n 2 dd_Mo_clearing_96 rfl ?_
        refine jj_callV (ci := 7) [_, _] [] 0 0 dd_Mo_clearing_97 cs_Mo_124 ci_Mo_124 (hS.1.1 60 _ rfl) ⟨by decide, rfl⟩ rfl (Nat.le_of_ble_eq_true rfl) ⟨(Nat.le_of_ble_eq_true rfl), (Nat.le_of_ble_eq_true rfl)⟩ ⟨(Nat.le_of_ble_eq_true rfl), (Nat.le_of_ble_eq_true rfl)⟩ rfl (cs_use (cs_Mo_voids (i := i) hi (by first | exact hr | exact (vo_rec hr (by omega)).1) (by first | omega | exact Nat.lt_of_le_of_lt (vo_rec hr (by omega)).2 (by omega)) (fun M hS => ?_)) hS)
        refine jj_if_eq (tgt := 107) dd_Mo_clearing_100 (by decide) (fun h100 => ?_) (fun h100 => ?_)
        · skip
          refine jj_iconst (v := 0) dd_Mo_clearing_107 rfl ?_
          refine jj_iret dd_Mo_clearing_108 rfl rfl ?_
          rw [if_pos h22, if_pos h37, if_neg h63, if_pos h100] at hQ
          exact ⟨_, hS, hQ⟩
        · skip
          refine jj_iconst (v := 3) dd_Mo_clearing_103 rfl ?_
          refine jj_goto (tgt := 108) dd_Mo_clearing_104 (by decide) ?_
          refine jj_iret dd_Mo_clearing_108 rfl rfl ?_
          rw [if_pos h22, if_pos h37, if_neg h63, if_neg h100] at hQ
          exact ⟨_, hS, hQ⟩
      · skip
        refine jj_aload_n 3 dd_Mo_clearing_66 rfl ?_
        refine jj_iload_n 1 dd_Mo_clearing_67 rfl ?_
        refine jj_callV (ci := 7) [_] [] 0 0 dd_Mo_clearing_68 cs_Mo_121 ci_Mo_121 (hS.1.1 60 _ rfl) ⟨by decide, rfl⟩ rfl (Nat.le_of_ble_eq_true rfl) ⟨(Nat.le_of_ble_eq_true rfl), (Nat.le_of_ble_eq_true rfl)⟩ ⟨(Nat.le_of_ble_eq_true rfl), (Nat.le_of_ble_eq_true rfl)⟩ rfl (cs_use (cs_Mo_loose (i := p) (c := c) hp2 ho hc (fun M hS => ?_)) hS)
        refine jj_if_ne (tgt := 76) dd_Mo_clearing_71 (by decide) (fun h71 => ?_) (fun h71 => ?_)
        · skip
          refine jj_aload_n 3 dd_Mo_clearing_76 rfl ?_
          refine jj_iload_n 1 dd_Mo_clearing_77 rfl ?_
          refine jj_iload_n 2 dd_Mo_clearing_78 rfl ?_
          refine jj_callV (ci := 7) [_, _] [] 0 0 dd_Mo_clearing_79 cs_Mo_124 ci_Mo_124 (hS.1.1 60 _ rfl) ⟨by decide, rfl⟩ rfl (Nat.le_of_ble_eq_true rfl) ⟨(Nat.le_of_ble_eq_true rfl), (Nat.le_of_ble_eq_true rfl)⟩ ⟨(Nat.le_of_ble_eq_true rfl), (Nat.le_of_ble_eq_true rfl)⟩ rfl (cs_use (cs_Mo_voids (i := p) hp2 hr (by omega) (fun M hS => ?_)) hS)
          refine jj_if_ne (tgt := 87) dd_Mo_clearing_82 (by decide) (fun h82 => ?_) (fun h82 => ?_)
          · skip
            refine jj_iload_n 1 dd_Mo_clearing_87 rfl ?_
            refine jj_iload_n 4 dd_Mo_clearing_88 rfl ?_
            refine jj_icmp_ne (tgt := 94) dd_Mo_clearing_89 (by decide) (fun h89 => ?_) (fun h89 => ?_)
            · skip
              refine jj_aload_n 3 dd_Mo_clearing_94 rfl ?_
              refine jj_iload_n 4 dd_Mo_clearing_95 rfl ?_
              refine jj_iload_n 2 dd_Mo_clearing_96 rfl ?_
              refine jj_callV (ci := 7) [_, _] [] 0 0 dd_Mo_clearing_97 cs_Mo_124 ci_Mo_124 (hS.1.1 60 _ rfl) ⟨by decide, rfl⟩ rfl (Nat.le_of_ble_eq_true rfl) ⟨(Nat.le_of_ble_eq_true rfl), (Nat.le_of_ble_eq_true rfl)⟩ ⟨(Nat.le_of_ble_eq_true rfl), (Nat.le_of_ble_eq_true rfl)⟩ rfl (cs_use (cs_Mo_voids (i := i) hi (by first | exact hr | exact (vo_rec hr (by omega)).1) (by first | omega | exact Nat.lt_of_le_of_lt (vo_rec hr (by omega)).2 (by omega)) (fun M hS => ?_)) hS)
              refine jj_if_eq (tgt := 107) dd_Mo_clearing_100 (by decide) (fun h100 => ?_) (fun h100 => ?_)
              · skip
                refine jj_iconst (v := 0) dd_Mo_clearing_107 rfl ?_
                refine jj_iret dd_Mo_clearing_108 rfl rfl ?_
                rw [if_pos h22, if_pos h37, if_pos h63, if_neg h71, if_neg h82, if_neg h89, if_pos h100] at hQ
                exact ⟨_, hS, hQ⟩
              · skip
                refine jj_iconst (v := 3) dd_Mo_clearing_103 rfl ?_
                refine jj_goto (tgt := 108) dd_Mo_clearing_104 (by decide) ?_
                refine jj_iret dd_Mo_clearing_108 rfl rfl ?_
                rw [if_pos h22, if_pos h37, if_pos h63, if_neg h71, if_neg h82, if_neg h89, if_neg h100] at hQ
                exact ⟨_, hS, hQ⟩
            · skip
              refine jj_iconst (v := 3) dd_Mo_clearing_92 rfl ?_
              refine jj_iret dd_Mo_clearing_93 rfl rfl ?_
              rw [if_pos h22, if_pos h37, if_pos h63, if_neg h71, if_neg h82, if_pos h89] at hQ
              exact ⟨_, hS, hQ⟩
          · skip
            refine jj_iconst (v := 0) dd_Mo_clearing_85 rfl ?_
            refine jj_iret dd_Mo_clearing_86 rfl rfl ?_
            rw [if_pos h22, if_pos h37, if_pos h63, if_neg h71, if_pos h82] at hQ
            exact ⟨_, hS, hQ⟩
        · skip
          refine jj_iconst (v := 1) dd_Mo_clearing_74 rfl ?_
          refine jj_iret dd_Mo_clearing_75 rfl rfl ?_
          rw [if_pos h22, if_pos h37, if_pos h63, if_pos h71] at hQ
          exact ⟨_, hS, hQ⟩
    · skip
      refine jj_aload_n 3 dd_Mo_clearing_40 rfl ?_
      refine jj_iload_n 4 dd_Mo_clearing_41 rfl ?_
      refine jj_iload 0 dd_Mo_clearing_42 rfl ?_
      refine jj_callV (ci := 7) [_, _] [] 0 0 dd_Mo_clearing_44 cs_Mo_117 ci_Mo_117 (hS.1.1 60 _ rfl) ⟨by decide, rfl⟩ rfl (Nat.le_of_ble_eq_true rfl) ⟨(Nat.le_of_ble_eq_true rfl), (Nat.le_of_ble_eq_true rfl)⟩ ⟨(Nat.le_of_ble_eq_true rfl), (Nat.le_of_ble_eq_true rfl)⟩ rfl (cs_use (cs_Mo_done (i := i) hi hr (by omega) (fun M hS => ?_)) hS)
      refine jj_if_eq (tgt := 54) dd_Mo_clearing_47 (by decide) (fun h47 => ?_) (fun h47 => ?_)
      · skip
        refine jj_iconst (v := 0) dd_Mo_clearing_54 rfl ?_
        refine jj_iret dd_Mo_clearing_55 rfl rfl ?_
        rw [if_pos h22, if_neg h37, if_pos h47] at hQ
        exact ⟨_, hS, hQ⟩
      · skip
        refine jj_iconst (v := 2) dd_Mo_clearing_50 rfl ?_
        refine jj_goto (tgt := 55) dd_Mo_clearing_51 (by decide) ?_
        refine jj_iret dd_Mo_clearing_55 rfl rfl ?_
        rw [if_pos h22, if_neg h37, if_neg h47] at hQ
        exact ⟨_, hS, hQ⟩
  · skip
    refine jj_iconst (v := 0) dd_Mo_clearing_25 rfl ?_
    refine jj_iret dd_Mo_clearing_26 rfl rfl ?_
    rw [if_neg h22] at hQ
    exact ⟨_, hS, hQ⟩
def fi_go (F : Nat → Nat → Int32) (c : Nat) : Nat → Nat → Nat
  | 0, k => k
  | n + 1, k => if F 87 (12 * c + k) = 0 then fi_go F c n (k + 1) else k
def fi_ (F : Nat → Nat → Int32) (c : Nat) : Nat := fi_go F c 11 0
theorem fi_le (F : Nat → Nat → Int32) (c : Nat) : ∀ n k, fi_go F c n k ≤ k + n := by
  intro n
  induction n with
  | zero => intro k; exact Nat.le_refl _
  | succ n ih =>
    intro k
    unfold fi_go
    split
    · have := ih (k + 1)
      omega
    · omega
theorem mm_itle {c : Prop} [Decidable c] {a b m : Nat} (ha : a ≤ m) (hb : b ≤ m) : (if c then a else b) ≤ m := by
  by_cases h : c
  · rw [if_pos h]; exact ha
  · rw [if_neg h]; exact hb
def nx_go (F : Nat → Nat → Int32) (c : Nat) (b : Int32) (p : Nat) : Nat → Nat → Nat
  | 0, _ => 12
  | n + 1, k => if ¬ F 87 (12 * c + k) ≤ 0 ∧ (if b = 0 then F 89 (12 * c + k) = 0 else ¬ nI k = nI p ∧ F 90 (12 * c + k) = 0) then k else nx_go F c b p n (k + 1)
def nx_ (F : Nat → Nat → Int32) (c : Nat) (b : Int32) : Nat := nx_go F c b (fi_ F c) 12 0
theorem nx_le (F : Nat → Nat → Int32) (c : Nat) (b : Int32) (p : Nat) : ∀ n k, k + n ≤ 12 → nx_go F c b p n k ≤ 12 := by
  intro n
  induction n with
  | zero => intro k _; exact Nat.le_refl _
  | succ n ih =>
    intro k hk
    unfold nx_go
    exact mm_itle (by omega) (ih (k + 1) (by omega))
set_option maxRecDepth 20000 in
theorem cs_Mo_first {l : Launch} {g : Nat → Nat} {S : ss_} {Q : Option Value → ss_ → Prop} {c : Nat} (hc : c < 4) (hQ : Q (some (.int (nI (fi_ S.1 c)))) S) : cs_ l yy_Mo_first bb_Mo_first 3 (some .int) 0 0 0 g [.ref (g 60), .int (nI c)] S Q := by
  intro M hS
  refine ct_of (by decide) (Nat.le_of_ble_eq_true rfl) (fun G A => ?_)
  have loop : ∀ (n k : Nat), k + n = 11 → Q (some (.int (nI (fi_go S.1 c n k)))) S → jj_ l yy_Mo_first bb_Mo_first 3 (some .int) G (mm_R 0 0 0) A (mm_ret (qs_ g Q)) 0 0 2 [(2, .int (nI (k))), (0, .ref (g 60)), (1, .int (nI (c)))] [] M := by
    intro n
    induction n with
    | zero =>
      intro k  hk hq
      have hk : k = 11 := by omega
      subst hk
      refine jj_iload_n 0 dd_Mo_first_2 rfl ?_
      refine jj_bipush (v := 11) dd_Mo_first_3 rfl ?_
      refine jj_icmp_ge (tgt := 28) dd_Mo_first_5 (by decide) (fun h5 => ?_) (fun h5 => ?_)
      · skip
        refine jj_iload_n 0 dd_Mo_first_28 rfl ?_
        refine jj_iret dd_Mo_first_29 rfl rfl ?_
        exact ⟨_, hS, hq⟩
      · exact absurd (by decide) h5
    | succ n ih =>
      intro k  hk hq
      refine jj_iload_n 0 dd_Mo_first_2 rfl ?_
      refine jj_bipush (v := 11) dd_Mo_first_3 rfl ?_
      refine jj_icmp_ge (tgt := 28) dd_Mo_first_5 (by decide) (fun h5 => ?_) (fun h5 => ?_)
      · exact absurd h5 (nI_ge (b := 11) (by omega) (by decide))
      · skip
        refine jj_aload_n 1 dd_Mo_first_8 rfl ?_
        refine jj_rS (n := 87) hS dd_Mo_first_9 ff_Mo_78 rfl (fun _ => rfl) rfl ?_
        refine jj_bipush (v := 12) dd_Mo_first_12 rfl ?_
        refine jj_iload_n 2 dd_Mo_first_14 rfl ?_
        refine jj_imul dd_Mo_first_15 ?_
        refine jj_ti (x' := nI (12 * c)) (pk_mul (12) (c)) ?_
        refine jj_iload_n 0 dd_Mo_first_16 rfl ?_
        refine jj_iadd dd_Mo_first_17 ?_
        refine jj_ti (x' := nI ((12 * c) + (k))) (nI_add (12 * c) (k)) ?_
        refine jj_aS hS dd_Mo_first_18 rfl (vp_in_nI (n := (12 * c) + (k)) (by omega) (by decide)) ((12 * c) + (k)) (nI_clamp (n := (12 * c) + (k)) (by omega)) ?_
        refine jj_if_ne (tgt := 28) dd_Mo_first_19 (by decide) (fun h19 => ?_) (fun h19 => ?_)
        · skip
          refine jj_iload_n 0 dd_Mo_first_28 rfl ?_
          refine jj_iret dd_Mo_first_29 rfl rfl ?_
          exact ⟨_, hS, by simpa [fi_go, h5, h19] using hq⟩
        · skip
          refine jj_iinc 0 (lv' := [(2, .int (nI (k + 1))), (0, .ref (g 60)), (1, .int (nI (c)))]) dd_Mo_first_22 rfl (nI_1 k) (Nat.le_of_ble_eq_true rfl) rfl ?_
          refine jj_goto (tgt := 2) dd_Mo_first_25 (by decide) ?_
          exact ih _ (by omega) (by simpa [fi_go, h5, h19] using hq)
  refine jj_iconst (v := 0) dd_Mo_first_0 rfl ?_
  refine jj_istore_n (lv' := [(2, .int (0)), (0, .ref (g 60)), (1, .int (nI (c)))]) dd_Mo_first_1 (Nat.le_of_ble_eq_true rfl) rfl ?_
  exact loop 11 0 (by omega) hQ
set_option maxRecDepth 20000 in
theorem cs_Mo_nextCell {l : Launch} {g : Nat → Nat} {S : ss_} {Q : Option Value → ss_ → Prop} {c : Nat} {b : Int32} (hc : c < 4) (hQ : Q (some (.int (nI (nx_ S.1 c b)))) S) : cs_ l yy_Mo_nextCell bb_Mo_nextCell 7 (some .int) 1 0 0 g [.ref (g 60), .int (nI c), .int b] S Q := by
  intro M hS
  refine ct_of (by decide) (Nat.le_of_ble_eq_true rfl) (fun G A => ?_)
  have hfi : fi_ S.1 c ≤ 11 := fi_le S.1 c 11 0
  have loop : ∀ (n k : Nat) (M : mm_M), k + n = 12 → rp_ g M S → Q (some (.int (nI (nx_go S.1 c b (fi_ S.1 c) n k)))) S → jj_ l yy_Mo_nextCell bb_Mo_nextCell 7 (some .int) G (mm_R 1 0 0) A (mm_ret (qs_ g Q)) 0 0 9 [(4, .int (nI (k))), (3, .int (nI (fi_ S.1 c))), (0, .ref (g 60)), (1, .int (nI (c))), (2, .int (b))] [] M := by
    intro n
    induction n with
    | zero =>
      intro k M hk hS hq
      have hk : k = 12 := by omega
      subst hk
      refine jj_iload 0 dd_Mo_nextCell_9 rfl ?_
      refine jj_bipush (v := 12) dd_Mo_nextCell_11 rfl ?_
      refine jj_icmp_ge (tgt := 94) dd_Mo_nextCell_13 (by decide) (fun h13 => ?_) (fun h13 => ?_)
      · skip
        refine jj_bipush (v := 12) dd_Mo_nextCell_94 rfl ?_
        refine jj_iret dd_Mo_nextCell_96 rfl rfl ?_
        exact ⟨_, hS, hq⟩
      · exact absurd (by decide) h13
    | succ n ih =>
      intro k M hk hS hq
      refine jj_iload 0 dd_Mo_nextCell_9 rfl ?_
      refine jj_bipush (v := 12) dd_Mo_nextCell_11 rfl ?_
      refine jj_icmp_ge (tgt := 94) dd_Mo_nextCell_13 (by decide) (fun h13 => ?_) (fun h13 => ?_)
      · exact absurd h13 (nI_ge (b := 12) (by omega) (by decide))
      · skip
        refine jj_bipush (v := 12) dd_Mo_nextCell_16 rfl ?_
        refine jj_iload_n 3 dd_Mo_nextCell_18 rfl ?_
        refine jj_imul dd_Mo_nextCell_19 ?_
        refine jj_ti (x' := nI (12 * c)) (pk_mul (12) (c)) ?_
        refine jj_iload 0 dd_Mo_nextCell_20 rfl ?_
        refine jj_iadd dd_Mo_nextCell_22 ?_
        refine jj_ti (x' := nI ((12 * c) + (k))) (nI_add (12 * c) (k)) ?_
        refine jj_istore (lv' := [(5, .int (nI ((12 * c) + (k)))), (4, .int (nI (k))), (3, .int (nI (fi_ S.1 c))), (0, .ref (g 60)), (1, .int (nI (c))), (2, .int (b))]) dd_Mo_nextCell_23 (Nat.le_of_ble_eq_true rfl) rfl ?_
        refine jj_iload_n 5 dd_Mo_nextCell_25 rfl ?_
        refine jj_if_eq (tgt := 53) dd_Mo_nextCell_26 (by decide) (fun h26 => ?_) (fun h26 => ?_)
        · skip
          refine jj_aload_n 3 dd_Mo_nextCell_53 rfl ?_
          refine jj_rS (n := 89) hS dd_Mo_nextCell_54 ff_Mo_84 rfl (fun _ => rfl) rfl ?_
          refine jj_iload 0 dd_Mo_nextCell_57 rfl ?_
          refine jj_zS hS dd_Mo_nextCell_59 rfl (vp_in_nI (n := (12 * c) + (k)) (by omega) (by decide)) ((12 * c) + (k)) (nI_clamp (n := (12 * c) + (k)) (by omega)) ?_
          refine jj_if_ne (tgt := 67) dd_Mo_nextCell_60 (by decide) (fun h60 => ?_) (fun h60 => ?_)
          · skip
            refine jj_iconst (v := 0) dd_Mo_nextCell_67 rfl ?_
            refine jj_istore (lv' := [(6, .int (0)), (5, .int (nI ((12 * c) + (k)))), (4, .int (nI (k))), (3, .int (nI (fi_ S.1 c))), (0, .ref (g 60)), (1, .int (nI (c))), (2, .int (b))]) dd_Mo_nextCell_68 (Nat.le_of_ble_eq_true rfl) rfl ?_
            refine jj_aload_n 4 dd_Mo_nextCell_70 rfl ?_
            refine jj_rS (n := 87) hS dd_Mo_nextCell_71 ff_Mo_78 rfl (fun _ => rfl) rfl ?_
            refine jj_iload 1 dd_Mo_nextCell_74 rfl ?_
            refine jj_aS hS dd_Mo_nextCell_76 rfl (vp_in_nI (n := (12 * c) + (k)) (by omega) (by decide)) ((12 * c) + (k)) (nI_clamp (n := (12 * c) + (k)) (by omega)) ?_
            refine jj_if_le (tgt := 88) dd_Mo_nextCell_77 (by decide) (fun h77 => ?_) (fun h77 => ?_)
            · skip
              refine jj_iinc 2 (lv' := [(4, .int (nI (k + 1))), (6, .int (0)), (5, .int (nI ((12 * c) + (k)))), (3, .int (nI (fi_ S.1 c))), (0, .ref (g 60)), (1, .int (nI (c))), (2, .int (b))]) dd_Mo_nextCell_88 rfl (nI_1 k) (Nat.le_of_ble_eq_true rfl) rfl ?_
              refine jj_goto (tgt := 9) dd_Mo_nextCell_91 (by decide) ?_
              refine jj_sub [0, 3, 4, 5, 6] rfl ?_
              exact ih _ _ (by omega) hS (by simpa [nx_go, -Int32.not_lt, -Int32.not_le, h13, h26, h60, h77] using hq)
            · skip
              refine jj_iload 0 dd_Mo_nextCell_80 rfl ?_
              refine jj_if_eq (tgt := 88) dd_Mo_nextCell_82 (by decide) (fun _ => ?_) (fun h => absurd h (by decide))
              refine jj_iinc 2 (lv' := [(4, .int (nI (k + 1))), (6, .int (0)), (5, .int (nI ((12 * c) + (k)))), (3, .int (nI (fi_ S.1 c))), (0, .ref (g 60)), (1, .int (nI (c))), (2, .int (b))]) dd_Mo_nextCell_88 rfl (nI_1 k) (Nat.le_of_ble_eq_true rfl) rfl ?_
              refine jj_goto (tgt := 9) dd_Mo_nextCell_91 (by decide) ?_
              refine jj_sub [0, 3, 4, 5, 6] rfl ?_
              exact ih _ _ (by omega) hS (by simpa [nx_go, -Int32.not_lt, -Int32.not_le, h13, h26, h60, h77] using hq)
          · skip
            refine jj_iconst (v := 1) dd_Mo_nextCell_63 rfl ?_
            refine jj_goto (tgt := 68) dd_Mo_nextCell_64 (by decide) ?_
            refine jj_istore (lv' := [(6, .int (1)), (5, .int (nI ((12 * c) + (k)))), (4, .int (nI (k))), (3, .int (nI (fi_ S.1 c))), (0, .ref (g 60)), (1, .int (nI (c))), (2, .int (b))]) dd_Mo_nextCell_68 (Nat.le_of_ble_eq_true rfl) rfl ?_
            refine jj_aload_n 4 dd_Mo_nextCell_70 rfl ?_
            refine jj_rS (n := 87) hS dd_Mo_nextCell_71 ff_Mo_78 rfl (fun _ => rfl) rfl ?_
            refine jj_iload 1 dd_Mo_nextCell_74 rfl ?_
            refine jj_aS hS dd_Mo_nextCell_76 rfl (vp_in_nI (n := (12 * c) + (k)) (by omega) (by decide)) ((12 * c) + (k)) (nI_clamp (n := (12 * c) + (k)) (by omega)) ?_
            refine jj_if_le (tgt := 88) dd_Mo_nextCell_77 (by decide) (fun h77 => ?_) (fun h77 => ?_)
            · skip
              refine jj_iinc 2 (lv' := [(4, .int (nI (k + 1))), (6, .int (1)), (5, .int (nI ((12 * c) + (k)))), (3, .int (nI (fi_ S.1 c))), (0, .ref (g 60)), (1, .int (nI (c))), (2, .int (b))]) dd_Mo_nextCell_88 rfl (nI_1 k) (Nat.le_of_ble_eq_true rfl) rfl ?_
              refine jj_goto (tgt := 9) dd_Mo_nextCell_91 (by decide) ?_
              refine jj_sub [0, 3, 4, 5, 6] rfl ?_
              exact ih _ _ (by omega) hS (by simpa [nx_go, -Int32.not_lt, -Int32.not_le, h13, h26, h60, h77] using hq)
            · skip
              refine jj_iload 0 dd_Mo_nextCell_80 rfl ?_
              refine jj_if_eq (tgt := 88) dd_Mo_nextCell_82 (by decide) (fun h => absurd h (by decide)) (fun _ => ?_)
              refine jj_iload 2 dd_Mo_nextCell_85 rfl ?_
              refine jj_iret dd_Mo_nextCell_87 rfl rfl ?_
              exact ⟨_, hS, by simpa [nx_go, -Int32.not_lt, -Int32.not_le, h13, h26, h60, h77] using hq⟩
        · skip
          refine jj_iload 1 dd_Mo_nextCell_29 rfl ?_
          refine jj_iload_n 2 dd_Mo_nextCell_31 rfl ?_
          refine jj_icmp_eq (tgt := 49) dd_Mo_nextCell_32 (by decide) (fun h32 => ?_) (fun h32 => ?_)
          · skip
            refine jj_iconst (v := 0) dd_Mo_nextCell_49 rfl ?_
            refine jj_goto (tgt := 68) dd_Mo_nextCell_50 (by decide) ?_
            refine jj_istore (lv' := [(6, .int (0)), (5, .int (nI ((12 * c) + (k)))), (4, .int (nI (k))), (3, .int (nI (fi_ S.1 c))), (0, .ref (g 60)), (1, .int (nI (c))), (2, .int (b))]) dd_Mo_nextCell_68 (Nat.le_of_ble_eq_true rfl) rfl ?_
            refine jj_aload_n 4 dd_Mo_nextCell_70 rfl ?_
            refine jj_rS (n := 87) hS dd_Mo_nextCell_71 ff_Mo_78 rfl (fun _ => rfl) rfl ?_
            refine jj_iload 1 dd_Mo_nextCell_74 rfl ?_
            refine jj_aS hS dd_Mo_nextCell_76 rfl (vp_in_nI (n := (12 * c) + (k)) (by omega) (by decide)) ((12 * c) + (k)) (nI_clamp (n := (12 * c) + (k)) (by omega)) ?_
            refine jj_if_le (tgt := 88) dd_Mo_nextCell_77 (by decide) (fun h77 => ?_) (fun h77 => ?_)
            · skip
              refine jj_iinc 2 (lv' := [(4, .int (nI (k + 1))), (6, .int (0)), (5, .int (nI ((12 * c) + (k)))), (3, .int (nI (fi_ S.1 c))), (0, .ref (g 60)), (1, .int (nI (c))), (2, .int (b))]) dd_Mo_nextCell_88 rfl (nI_1 k) (Nat.le_of_ble_eq_true rfl) rfl ?_
              refine jj_goto (tgt := 9) dd_Mo_nextCell_91 (by decide) ?_
              refine jj_sub [0, 3, 4, 5, 6] rfl ?_
              exact ih _ _ (by omega) hS (by simpa [nx_go, -Int32.not_lt, -Int32.not_le, h13, h26, h32, h77] using hq)
            · skip
              refine jj_iload 0 dd_Mo_nextCell_80 rfl ?_
              refine jj_if_eq (tgt := 88) dd_Mo_nextCell_82 (by decide) (fun _ => ?_) (fun h => absurd h (by decide))
              refine jj_iinc 2 (lv' := [(4, .int (nI (k + 1))), (6, .int (0)), (5, .int (nI ((12 * c) + (k)))), (3, .int (nI (fi_ S.1 c))), (0, .ref (g 60)), (1, .int (nI (c))), (2, .int (b))]) dd_Mo_nextCell_88 rfl (nI_1 k) (Nat.le_of_ble_eq_true rfl) rfl ?_
              refine jj_goto (tgt := 9) dd_Mo_nextCell_91 (by decide) ?_
              refine jj_sub [0, 3, 4, 5, 6] rfl ?_
              exact ih _ _ (by omega) hS (by simpa [nx_go, -Int32.not_lt, -Int32.not_le, h13, h26, h32, h77] using hq)
          · skip
            refine jj_aload_n 3 dd_Mo_nextCell_35 rfl ?_
            refine jj_rS (n := 90) hS dd_Mo_nextCell_36 ff_Mo_87 rfl (fun _ => rfl) rfl ?_
            refine jj_iload 0 dd_Mo_nextCell_39 rfl ?_
            refine jj_zS hS dd_Mo_nextCell_41 rfl (vp_in_nI (n := (12 * c) + (k)) (by omega) (by decide)) ((12 * c) + (k)) (nI_clamp (n := (12 * c) + (k)) (by omega)) ?_
            refine jj_if_ne (tgt := 49) dd_Mo_nextCell_42 (by decide) (fun h42 => ?_) (fun h42 => ?_)
            · skip
              refine jj_iconst (v := 0) dd_Mo_nextCell_49 rfl ?_
              refine jj_goto (tgt := 68) dd_Mo_nextCell_50 (by decide) ?_
              refine jj_istore (lv' := [(6, .int (0)), (5, .int (nI ((12 * c) + (k)))), (4, .int (nI (k))), (3, .int (nI (fi_ S.1 c))), (0, .ref (g 60)), (1, .int (nI (c))), (2, .int (b))]) dd_Mo_nextCell_68 (Nat.le_of_ble_eq_true rfl) rfl ?_
              refine jj_aload_n 4 dd_Mo_nextCell_70 rfl ?_
              refine jj_rS (n := 87) hS dd_Mo_nextCell_71 ff_Mo_78 rfl (fun _ => rfl) rfl ?_
              refine jj_iload 1 dd_Mo_nextCell_74 rfl ?_
              refine jj_aS hS dd_Mo_nextCell_76 rfl (vp_in_nI (n := (12 * c) + (k)) (by omega) (by decide)) ((12 * c) + (k)) (nI_clamp (n := (12 * c) + (k)) (by omega)) ?_
              refine jj_if_le (tgt := 88) dd_Mo_nextCell_77 (by decide) (fun h77 => ?_) (fun h77 => ?_)
              · skip
                refine jj_iinc 2 (lv' := [(4, .int (nI (k + 1))), (6, .int (0)), (5, .int (nI ((12 * c) + (k)))), (3, .int (nI (fi_ S.1 c))), (0, .ref (g 60)), (1, .int (nI (c))), (2, .int (b))]) dd_Mo_nextCell_88 rfl (nI_1 k) (Nat.le_of_ble_eq_true rfl) rfl ?_
                refine jj_goto (tgt := 9) dd_Mo_nextCell_91 (by decide) ?_
                refine jj_sub [0, 3, 4, 5, 6] rfl ?_
                exact ih _ _ (by omega) hS (by simpa [nx_go, -Int32.not_lt, -Int32.not_le, h13, h26, h32, h42, h77] using hq)
              · skip
                refine jj_iload 0 dd_Mo_nextCell_80 rfl ?_
                refine jj_if_eq (tgt := 88) dd_Mo_nextCell_82 (by decide) (fun _ => ?_) (fun h => absurd h (by decide))
                refine jj_iinc 2 (lv' := [(4, .int (nI (k + 1))), (6, .int (0)), (5, .int (nI ((12 * c) + (k)))), (3, .int (nI (fi_ S.1 c))), (0, .ref (g 60)), (1, .int (nI (c))), (2, .int (b))]) dd_Mo_nextCell_88 rfl (nI_1 k) (Nat.le_of_ble_eq_true rfl) rfl ?_
                refine jj_goto (tgt := 9) dd_Mo_nextCell_91 (by decide) ?_
                refine jj_sub [0, 3, 4, 5, 6] rfl ?_
                exact ih _ _ (by omega) hS (by simpa [nx_go, -Int32.not_lt, -Int32.not_le, h13, h26, h32, h42, h77] using hq)
            · skip
              refine jj_iconst (v := 1) dd_Mo_nextCell_45 rfl ?_
              refine jj_goto (tgt := 68) dd_Mo_nextCell_46 (by decide) ?_
              refine jj_istore (lv' := [(6, .int (1)), (5, .int (nI ((12 * c) + (k)))), (4, .int (nI (k))), (3, .int (nI (fi_ S.1 c))), (0, .ref (g 60)), (1, .int (nI (c))), (2, .int (b))]) dd_Mo_nextCell_68 (Nat.le_of_ble_eq_true rfl) rfl ?_
              refine jj_aload_n 4 dd_Mo_nextCell_70 rfl ?_
              refine jj_rS (n := 87) hS dd_Mo_nextCell_71 ff_Mo_78 rfl (fun _ => rfl) rfl ?_
              refine jj_iload 1 dd_Mo_nextCell_74 rfl ?_
              refine jj_aS hS dd_Mo_nextCell_76 rfl (vp_in_nI (n := (12 * c) + (k)) (by omega) (by decide)) ((12 * c) + (k)) (nI_clamp (n := (12 * c) + (k)) (by omega)) ?_
              refine jj_if_le (tgt := 88) dd_Mo_nextCell_77 (by decide) (fun h77 => ?_) (fun h77 => ?_)
              · skip
                refine jj_iinc 2 (lv' := [(4, .int (nI (k + 1))), (6, .int (1)), (5, .int (nI ((12 * c) + (k)))), (3, .int (nI (fi_ S.1 c))), (0, .ref (g 60)), (1, .int (nI (c))), (2, .int (b))]) dd_Mo_nextCell_88 rfl (nI_1 k) (Nat.le_of_ble_eq_true rfl) rfl ?_
                refine jj_goto (tgt := 9) dd_Mo_nextCell_91 (by decide) ?_
                refine jj_sub [0, 3, 4, 5, 6] rfl ?_
                exact ih _ _ (by omega) hS (by simpa [nx_go, -Int32.not_lt, -Int32.not_le, h13, h26, h32, h42, h77] using hq)
              · skip
                refine jj_iload 0 dd_Mo_nextCell_80 rfl ?_
                refine jj_if_eq (tgt := 88) dd_Mo_nextCell_82 (by decide) (fun h => absurd h (by decide)) (fun _ => ?_)
                refine jj_iload 2 dd_Mo_nextCell_85 rfl ?_
                refine jj_iret dd_Mo_nextCell_87 rfl rfl ?_
                exact ⟨_, hS, by simpa [nx_go, -Int32.not_lt, -Int32.not_le, h13, h26, h32, h42, h77] using hq⟩
  refine jj_aload_n 0 dd_Mo_nextCell_0 rfl ?_
  refine jj_iload_n 1 dd_Mo_nextCell_1 rfl ?_
  refine jj_callV (ci := 7) [_] [] 0 0 dd_Mo_nextCell_2 cs_Mo_155 ci_Mo_155 (hS.1.1 60 _ rfl) ⟨by decide, rfl⟩ rfl (Nat.le_of_ble_eq_true rfl) ⟨(Nat.le_of_ble_eq_true rfl), (Nat.le_of_ble_eq_true rfl)⟩ ⟨(Nat.le_of_ble_eq_true rfl), (Nat.le_of_ble_eq_true rfl)⟩ rfl (cs_use (cs_Mo_first (c := c) hc (fun M hS => ?_)) hS)
  refine jj_istore_n (lv' := [(3, .int (nI (fi_ S.1 c))), (0, .ref (g 60)), (1, .int (nI (c))), (2, .int (b))]) dd_Mo_nextCell_5 (Nat.le_of_ble_eq_true rfl) rfl ?_
  refine jj_iconst (v := 0) dd_Mo_nextCell_6 rfl ?_
  refine jj_istore (lv' := [(4, .int (0)), (3, .int (nI (fi_ S.1 c))), (0, .ref (g 60)), (1, .int (nI (c))), (2, .int (b))]) dd_Mo_nextCell_7 (Nat.le_of_ble_eq_true rfl) rfl ?_
  exact loop 12 0 M (by omega) hS hQ
end
section
theorem mm_itm {c : Prop} [Decidable c] {P Q P' Q' : Prop} (h1 : c → P → P') (h2 : ¬ c → Q → Q') (h : if c then P else Q) : if c then P' else Q' := by
  by_cases hc : c
  · rw [if_pos hc] at h ⊢; exact h1 hc h
  · rw [if_neg hc] at h ⊢; exact h2 hc h
theorem cl_mono {F : Nat → Nat → Int32} {i p c : Nat} {K K' : Int32 → (Nat → Nat → Int32) → Prop} (hK : ∀ r F1, K r F1 → K' r F1) (h : cl_ F i p c K) : cl_ F i p c K' := by
  revert h
  unfold cl_
  repeat' first | with_reducible refine mm_itm (fun _ => ?_) (fun _ => ?_) | with_reducible exact hK _ _
theorem cl_inv {F : Nat → Nat → Int32} {i p c : Nat} {K : Int32 → (Nat → Nat → Int32) → Prop} {P : (Nat → Nat → Int32) → Prop} (h0 : P F) (hd : ∀ x, P (dn_F F i x)) (hv : ∀ j x, P (vo_F F j x)) (hvv : ∀ j x y, P (vo_F (vo_F F j x) i y)) (h : cl_ F i p c K) : cl_ F i p c (fun r F1 => K r F1 ∧ P F1) := by
  revert h
  unfold cl_
  repeat' first | with_reducible refine mm_itm (fun _ => ?_) (fun _ => ?_) | with_reducible exact fun h => ⟨h, h0⟩ | with_reducible exact fun h => ⟨h, hd _⟩ | with_reducible exact fun h => ⟨h, hv _ _⟩ | with_reducible exact fun h => ⟨h, hvv _ _ _⟩
theorem cl_str {F : Nat → Nat → Int32} {i p c : Nat} {K : Int32 → (Nat → Nat → Int32) → Prop} (hr : F 60 11 = nI (rec_ F)) (hr2 : rec_ F < 1538) (h : cl_ F i p c K) : cl_ F i p c (fun r F1 => K r F1 ∧ F1 60 11 = nI (rec_ F1) ∧ rec_ F1 ≤ rec_ F + 2) := by
  have v1 := fun (i : Nat) (x : Int32) => vo_rec (i := i) (x := x) hr (by omega)
  have v3 := fun (i : Nat) (x : Int32) => dn_rec (i := i) (x := x) hr (by omega)
  refine cl_inv (P := fun F1 => F1 60 11 = nI (rec_ F1) ∧ rec_ F1 ≤ rec_ F + 2) ⟨hr, by omega⟩ (fun x => ⟨(v3 i x).1, Nat.le_trans (v3 i x).2 (by omega)⟩) (fun j x => ⟨(v1 j x).1, Nat.le_trans (v1 j x).2 (by omega)⟩) (fun j x y => ?_) h
  have a := v1 j x
  have b := vo_rec (i := i) (x := y) a.1 (by omega)
  exact ⟨b.1, by omega⟩
def pn_ (F : Nat → Nat → Int32) (i : Nat) : Nat := (F 66 i).toNatClampNeg
def on_ (F : Nat → Nat → Int32) (i : Nat) : Nat := (F 67 i).toNatClampNeg
def ok_ (F : Nat → Nat → Int32) : Prop := (∀ i, i < 12 → F 66 i = nI (pn_ F i) ∧ pn_ F i < 12) ∧ ∀ i, i < 12 → F 67 i = nI (on_ F i) ∧ on_ F i < 4
def gl_ (F : Nat → Nat → Int32) (c i : Nat) (K : Int32 → (Nat → Nat → Int32) → Prop) : Prop :=
  if la_ F (nI i) (F 84 c) < 0 then K 0 (uf_ F 60 1 3) else if F 75 (la_ F (nI i) (F 84 c)).toNatClampNeg = 2 then K 0 (uf_ F 60 1 3) else K (F 76 (la_ F (nI i) (F 84 c)).toNatClampNeg) F
def ge_ (F : Nat → Nat → Int32) (c i : Nat) (K : Int32 → (Nat → Nat → Int32) → Prop) : Prop :=
  if F 83 c = 1 then
    if F 87 (12 * c + i) ≤ 0 then
      if F 77 (i / 4) = 0 then
        if F 78 (i / 4) ≤ F 84 c then
          if F 65 i ≤ 0 then gl_ F c i K else if F 84 c ≤ F 65 i then gl_ F c i K
          else cl_ F i (pn_ F i) (on_ F (pn_ F i)) (fun r F1 => if r = 1 then K 0 (uf_ F1 60 1 2) else if r = 0 then K 0 (uf_ F1 60 1 2) else gl_ F1 c i K)
        else K 0 (uf_ F 60 1 4)
      else K 0 (uf_ F 60 1 2)
    else if F 87 (12 * c + i) = 1 then K (F 88 (12 * c + i)) F else K 0 (uf_ F 60 1 3)
  else K 0 (uf_ F 60 1 2)
def pc_ (F : Nat → Nat → Int32) (c i : Nat) (K : Int32 → (Nat → Nat → Int32) → Prop) : Prop := if lo_r F c i (nI (fi_ F c)) = 0 then K 0 (uf_ (lo_F F c i (nI (fi_ F c))) 60 1 3) else K 1 (uf_ (lo_F F c i (nI (fi_ F c))) 89 (12 * c + i) 1)
def pw_ (F : Nat → Nat → Int32) (c i : Nat) (K : Int32 → (Nat → Nat → Int32) → Prop) : Prop :=
  if F 77 (i / 4) = 0 then
    if F 65 i = F 84 c then K 1 (uf_ F 89 (12 * c + i) 1)
    else if F 84 c < F 78 (i / 4) then K 0 (uf_ F 83 c 0)
    else if ov_ F (nI i) (F 84 c) = 0 then
      if F 65 i ≤ 0 then pc_ F c i K
      else cl_ F i (pn_ F i) (on_ F (pn_ F i)) (fun r F1 => if r = 1 then K 0 (uf_ F1 60 1 3) else if r = 0 then K 0 (uf_ F1 60 1 3) else if ov_ F1 (nI i) (F 84 c) = 0 then pc_ F1 c i K else K 0 (uf_ F1 83 c 0))
    else K 0 (uf_ F 83 c 0)
  else K 0 (uf_ F 60 1 3)
def dx_ (F : Nat → Nat → Int32) (c : Nat) (K : Int32 → (Nat → Nat → Int32) → Prop) : Prop := if nI (nx_ (uf_ F 86 c 1) c 1) = 12 then K 4 (uf_ (uf_ F 86 c 1) 83 c 0) else K 3 (uf_ F 86 c 1)
def de_ (F : Nat → Nat → Int32) (c : Nat) (K : Int32 → (Nat → Nat → Int32) → Prop) : Prop :=
  if F 77 (fi_ F c / 4) = 0 then
    if dc_ F (nI (fi_ F c)) (F 84 c) = 0 then
      if F 65 (fi_ F c) = F 84 c then
        if dn_r F (fi_ F c) (F 85 c) = 0 then K 0 (uf_ (dn_F F (fi_ F c) (F 85 c)) 60 1 3) else dx_ (dn_F F (fi_ F c) (F 85 c)) c K
      else K 0 (uf_ F 83 c 0)
    else dx_ F c K
  else K 0 (uf_ F 60 1 3)
def fx_ (F : Nat → Nat → Int32) (c i : Nat) (K : Int32 → (Nat → Nat → Int32) → Prop) : Prop := if nI (nx_ (uf_ F 90 (12 * c + i) 1) c 1) = 12 then K 6 (uf_ (uf_ F 90 (12 * c + i) 1) 83 c 0) else K 5 (uf_ F 90 (12 * c + i) 1)
def fo_ (F : Nat → Nat → Int32) (c : Nat) (K : Int32 → (Nat → Nat → Int32) → Prop) : Prop :=
  if F 77 (nx_ F c 1 / 4) = 0 then
    if F 65 (nx_ F c 1) = F 84 c then
      if dn_r F (nx_ F c 1) (F 85 c) = 0 then K 0 (uf_ (dn_F F (nx_ F c 1) (F 85 c)) 60 1 3) else fx_ (dn_F F (nx_ F c 1) (F 85 c)) c (nx_ F c 1) K
    else fx_ F c (nx_ F c 1) K
  else K 0 (uf_ F 60 1 3)
set_option maxRecDepth 20000 in
theorem cs_Mo_prewrite {l : Launch} {g : Nat → Nat} {S : ss_} {Q : Option Value → ss_ → Prop} {c i : Nat} (hc : c < 4) (hi : i < 12) (hok : ok_ S.1) (hr : S.1 60 11 = nI (rec_ S.1)) (hr2 : rec_ S.1 < 1538) (hQ : pw_ S.1 c i (fun r F => Q (some (.int r)) (F, S.2))) : cs_ l yy_Mo_prewrite bb_Mo_prewrite 5 (some .int) 3 0 0 g [.ref (g 60), .int (nI c), .int (nI i)] S Q := by
  intro M hS
  refine ct_of (by decide) (Nat.le_of_ble_eq_true rfl) (fun G A => ?_)
  unfold pw_ pc_ at hQ
  refine jj_aload_n 0 dd_Mo_prewrite_0 rfl ?_
  refine jj_rS (n := 84) hS dd_Mo_prewrite_1 ff_Mo_69 rfl (fun _ => rfl) rfl ?_
  refine jj_iload_n 1 dd_Mo_prewrite_4 rfl ?_
  refine jj_aS hS dd_Mo_prewrite_5 rfl (vp_in_nI (n := c) (by omega) (by decide)) (c) (nI_clamp (n := c) (by omega)) ?_
  refine jj_istore_n (lv' := [(3, .int _), (0, .ref (g 60)), (1, .int (nI (c))), (2, .int (nI (i)))]) dd_Mo_prewrite_6 (Nat.le_of_ble_eq_true rfl) rfl ?_
  refine jj_aload_n 1 dd_Mo_prewrite_7 rfl ?_
  refine jj_rS (n := 77) hS dd_Mo_prewrite_8 ff_Mo_47 rfl (fun _ => rfl) rfl ?_
  refine jj_iload_n 3 dd_Mo_prewrite_11 rfl ?_
  refine jj_iconst (v := 4) dd_Mo_prewrite_12 rfl ?_
  refine jj_idiv dd_Mo_prewrite_13 (by decide) ?_
  refine jj_ti (x' := nI ((i) / 4)) (pk_div (a := i) (d := 4) (by omega) (by decide) (by decide)) ?_
  refine jj_zS hS dd_Mo_prewrite_14 rfl (vp_in_nI (n := (i) / 4) (by omega) (by decide)) ((i) / 4) (nI_clamp (n := (i) / 4) (by omega)) ?_
  refine jj_if_eq (tgt := 24) dd_Mo_prewrite_15 (by decide) (fun h15 => ?_) (fun h15 => ?_)
  · skip
    refine jj_aload_n 1 dd_Mo_prewrite_24 rfl ?_
    refine jj_rS (n := 65) hS dd_Mo_prewrite_25 ff_Mo_13 rfl (fun _ => rfl) rfl ?_
    refine jj_iload_n 3 dd_Mo_prewrite_28 rfl ?_
    refine jj_aS hS dd_Mo_prewrite_29 rfl (vp_in_nI (n := i) (by omega) (by decide)) (i) (nI_clamp (n := i) (by omega)) ?_
    refine jj_iload_n 0 dd_Mo_prewrite_30 rfl ?_
    refine jj_icmp_eq (tgt := 135) dd_Mo_prewrite_31 (by decide) (fun h31 => ?_) (fun h31 => ?_)
    · skip
      refine jj_aload_n 1 dd_Mo_prewrite_135 rfl ?_
      refine jj_rS (n := 89) hS dd_Mo_prewrite_136 ff_Mo_84 rfl (fun _ => rfl) rfl ?_
      refine jj_bipush (v := 12) dd_Mo_prewrite_139 rfl ?_
      refine jj_iload_n 2 dd_Mo_prewrite_141 rfl ?_
      refine jj_imul dd_Mo_prewrite_142 ?_
      refine jj_ti (x' := nI (12 * c)) (pk_mul (12) (c)) ?_
      refine jj_iload_n 3 dd_Mo_prewrite_143 rfl ?_
      refine jj_iadd dd_Mo_prewrite_144 ?_
      refine jj_ti (x' := nI ((12 * c) + (i))) (nI_add (12 * c) (i)) ?_
      refine jj_iconst (v := 1) dd_Mo_prewrite_145 rfl ?_
      refine jj_zsS hS dd_Mo_prewrite_146 rfl (vp_in_nI (n := (12 * c) + (i)) (by omega) (by decide)) rfl ((12 * c) + (i)) (nI_clamp (n := (12 * c) + (i)) (by omega)) (fun M hS => ?_)
      refine jj_iconst (v := 1) dd_Mo_prewrite_147 rfl ?_
      refine jj_iret dd_Mo_prewrite_148 rfl rfl ?_
      rw [if_pos h15, if_pos h31] at hQ
      exact ⟨_, hS, hQ⟩
    · skip
      refine jj_aload_n 1 dd_Mo_prewrite_34 rfl ?_
      refine jj_rS (n := 78) hS dd_Mo_prewrite_35 ff_Mo_51 rfl (fun _ => rfl) rfl ?_
      refine jj_iload_n 3 dd_Mo_prewrite_38 rfl ?_
      refine jj_iconst (v := 4) dd_Mo_prewrite_39 rfl ?_
      refine jj_idiv dd_Mo_prewrite_40 (by decide) ?_
      refine jj_ti (x' := nI ((i) / 4)) (pk_div (a := i) (d := 4) (by omega) (by decide) (by decide)) ?_
      refine jj_aS hS dd_Mo_prewrite_41 rfl (vp_in_nI (n := (i) / 4) (by omega) (by decide)) ((i) / 4) (nI_clamp (n := (i) / 4) (by omega)) ?_
      refine jj_iload_n 0 dd_Mo_prewrite_42 rfl ?_
      refine jj_icmp_gt (tgt := 55) dd_Mo_prewrite_43 (by decide) (fun h43 => ?_) (fun h43 => ?_)
      · skip
        refine jj_aload_n 1 dd_Mo_prewrite_55 rfl ?_
        refine jj_iload_n 2 dd_Mo_prewrite_56 rfl ?_
        refine jj_iconst (v := 0) dd_Mo_prewrite_57 rfl ?_
        refine jj_callV (ci := 7) [_, _] [] 0 0 dd_Mo_prewrite_58 cs_Mo_158 ci_Mo_158 (hS.1.1 60 _ rfl) ⟨by decide, rfl⟩ rfl (Nat.le_of_ble_eq_true rfl) ⟨(Nat.le_of_ble_eq_true rfl), (Nat.le_of_ble_eq_true rfl)⟩ ⟨(Nat.le_of_ble_eq_true rfl), (Nat.le_of_ble_eq_true rfl)⟩ rfl (cs_use (cs_Mo_ends (c := c) hc (fun M hS => ?_)) hS)
        refine jj_iret dd_Mo_prewrite_61 rfl rfl ?_
        rw [if_pos h15, if_neg h31, if_pos h43] at hQ
        exact ⟨_, hS, hQ⟩
      · skip
        refine jj_aload_n 1 dd_Mo_prewrite_46 rfl ?_
        refine jj_iload_n 3 dd_Mo_prewrite_47 rfl ?_
        refine jj_iload_n 0 dd_Mo_prewrite_48 rfl ?_
        refine jj_callV (ci := 7) [_, _] [] 0 0 dd_Mo_prewrite_49 cs_Mo_174 ci_Mo_174 (hS.1.1 60 _ rfl) ⟨by decide, rfl⟩ rfl (Nat.le_of_ble_eq_true rfl) ⟨(Nat.le_of_ble_eq_true rfl), (Nat.le_of_ble_eq_true rfl)⟩ ⟨(Nat.le_of_ble_eq_true rfl), (Nat.le_of_ble_eq_true rfl)⟩ rfl (cs_use (cs_Mo_overtaken (by first | exact hr | exact hr3) (by first | omega | (show rec_ F1 ≤ 1540; omega)) (fun M hS => ?_)) hS)
        refine jj_if_eq (tgt := 62) dd_Mo_prewrite_52 (by decide) (fun h52 => ?_) (fun h52 => ?_)
        · skip
          refine jj_aload_n 1 dd_Mo_prewrite_62 rfl ?_
          refine jj_rS (n := 65) hS dd_Mo_prewrite_63 ff_Mo_13 rfl (fun _ => rfl) rfl ?_
          refine jj_iload_n 3 dd_Mo_prewrite_66 rfl ?_
          refine jj_aS hS dd_Mo_prewrite_67 rfl (vp_in_nI (n := i) (by omega) (by decide)) (i) (nI_clamp (n := i) (by omega)) ?_
          refine jj_if_le (tgt := 111) dd_Mo_prewrite_68 (by decide) (fun h68 => ?_) (fun h68 => ?_)
          · skip
            skip
            refine jj_aload_n 1 dd_Mo_prewrite_111 rfl ?_
            refine jj_iload_n 2 dd_Mo_prewrite_112 rfl ?_
            refine jj_callV (ci := 7) [_] [] 0 0 dd_Mo_prewrite_113 cs_Mo_155 ci_Mo_155 (hS.1.1 60 _ rfl) ⟨by decide, rfl⟩ rfl (Nat.le_of_ble_eq_true rfl) ⟨(Nat.le_of_ble_eq_true rfl), (Nat.le_of_ble_eq_true rfl)⟩ ⟨(Nat.le_of_ble_eq_true rfl), (Nat.le_of_ble_eq_true rfl)⟩ rfl (cs_use (cs_Mo_first (c := c) hc (fun M hS => ?_)) hS)
            refine jj_istore (lv' := [(4, .int _), (3, .int _), (0, .ref (g 60)), (1, .int (nI (c))), (2, .int (nI (i)))]) dd_Mo_prewrite_116 (Nat.le_of_ble_eq_true rfl) rfl ?_
            refine jj_aload_n 2 dd_Mo_prewrite_118 rfl ?_
            refine jj_iload_n 3 dd_Mo_prewrite_119 rfl ?_
            refine jj_iload_n 4 dd_Mo_prewrite_120 rfl ?_
            refine jj_iload 0 dd_Mo_prewrite_121 rfl ?_
            refine jj_callV (ci := 7) [_, _, _] [] 0 0 dd_Mo_prewrite_123 cs_Mo_177 ci_Mo_177 (hS.1.1 60 _ rfl) ⟨by decide, rfl⟩ rfl (Nat.le_of_ble_eq_true rfl) ⟨(Nat.le_of_ble_eq_true rfl), (Nat.le_of_ble_eq_true rfl)⟩ ⟨(Nat.le_of_ble_eq_true rfl), (Nat.le_of_ble_eq_true rfl)⟩ rfl (cs_use (cs_Mo_locks (c := c) (i := i) hc hi (fun M hS => ?_)) hS)
            refine jj_if_ne (tgt := 135) dd_Mo_prewrite_126 (by decide) (fun h126 => ?_) (fun h126 => ?_)
            · skip
              refine jj_aload_n 2 dd_Mo_prewrite_135 rfl ?_
              refine jj_rS (n := 89) hS dd_Mo_prewrite_136 ff_Mo_84 rfl (fun _ => rfl) rfl ?_
              refine jj_bipush (v := 12) dd_Mo_prewrite_139 rfl ?_
              refine jj_iload_n 3 dd_Mo_prewrite_141 rfl ?_
              refine jj_imul dd_Mo_prewrite_142 ?_
              refine jj_ti (x' := nI (12 * c)) (pk_mul (12) (c)) ?_
              refine jj_iload_n 4 dd_Mo_prewrite_143 rfl ?_
              refine jj_iadd dd_Mo_prewrite_144 ?_
              refine jj_ti (x' := nI ((12 * c) + (i))) (nI_add (12 * c) (i)) ?_
              refine jj_iconst (v := 1) dd_Mo_prewrite_145 rfl ?_
              refine jj_zsS hS dd_Mo_prewrite_146 rfl (vp_in_nI (n := (12 * c) + (i)) (by omega) (by decide)) rfl ((12 * c) + (i)) (nI_clamp (n := (12 * c) + (i)) (by omega)) (fun M hS => ?_)
              refine jj_iconst (v := 1) dd_Mo_prewrite_147 rfl ?_
              refine jj_iret dd_Mo_prewrite_148 rfl rfl ?_
              rw [if_pos h15, if_neg h31, if_neg h43, if_pos h52, if_pos h68, if_neg h126] at hQ
              exact ⟨_, hS, hQ⟩
            · skip
              refine jj_aload_n 2 dd_Mo_prewrite_129 rfl ?_
              refine jj_iconst (v := 3) dd_Mo_prewrite_130 rfl ?_
              refine jj_callV (ci := 7) [_] [] 0 0 dd_Mo_prewrite_131 cs_Mo_134 ci_Mo_134 (hS.1.1 60 _ rfl) ⟨by decide, rfl⟩ rfl (Nat.le_of_ble_eq_true rfl) ⟨(Nat.le_of_ble_eq_true rfl), (Nat.le_of_ble_eq_true rfl)⟩ ⟨(Nat.le_of_ble_eq_true rfl), (Nat.le_of_ble_eq_true rfl)⟩ rfl (cs_use (cs_Mo_fails (fun M hS => ?_)) hS)
              refine jj_iret dd_Mo_prewrite_134 rfl rfl ?_
              rw [if_pos h15, if_neg h31, if_neg h43, if_pos h52, if_pos h68, if_pos h126] at hQ
              exact ⟨_, hS, hQ⟩
          · skip
            refine jj_aload_n 1 dd_Mo_prewrite_71 rfl ?_
            refine jj_iload_n 3 dd_Mo_prewrite_72 rfl ?_
            rw [if_pos h15, if_neg h31, if_neg h43, if_pos h52, if_neg h68] at hQ
            refine jj_callV (ci := 7) [_] [] 0 0 dd_Mo_prewrite_73 cs_Mo_145 ci_Mo_145 (hS.1.1 60 _ rfl) ⟨by decide, rfl⟩ rfl (Nat.le_of_ble_eq_true rfl) ⟨(Nat.le_of_ble_eq_true rfl), (Nat.le_of_ble_eq_true rfl)⟩ ⟨(Nat.le_of_ble_eq_true rfl), (Nat.le_of_ble_eq_true rfl)⟩ rfl (cs_use (cs_Mo_clearing hi (hok.1 i hi).1 (hok.1 i hi).2 (hok.2 _ (hok.1 i hi).2).1 (hok.2 _ (hok.1 i hi).2).2 hr hr2 (cl_mono (fun r F1 hh => ?_) (cl_str hr hr2 hQ))) hS)
            intro M hS
            obtain ⟨hQ, hr3, hr4⟩ := hh
            refine jj_istore (lv' := [(4, .int _), (3, .int _), (0, .ref (g 60)), (1, .int (nI (c))), (2, .int (nI (i)))]) dd_Mo_prewrite_76 (Nat.le_of_ble_eq_true rfl) rfl ?_
            refine jj_iload 0 dd_Mo_prewrite_78 rfl ?_
            refine jj_iconst (v := 1) dd_Mo_prewrite_80 rfl ?_
            refine jj_icmp_eq (tgt := 89) dd_Mo_prewrite_81 (by decide) (fun h81 => ?_) (fun h81 => ?_)
            · skip
              refine jj_aload_n 2 dd_Mo_prewrite_89 rfl ?_
              refine jj_iconst (v := 3) dd_Mo_prewrite_90 rfl ?_
              refine jj_callV (ci := 7) [_] [] 0 0 dd_Mo_prewrite_91 cs_Mo_134 ci_Mo_134 (hS.1.1 60 _ rfl) ⟨by decide, rfl⟩ rfl (Nat.le_of_ble_eq_true rfl) ⟨(Nat.le_of_ble_eq_true rfl), (Nat.le_of_ble_eq_true rfl)⟩ ⟨(Nat.le_of_ble_eq_true rfl), (Nat.le_of_ble_eq_true rfl)⟩ rfl (cs_use (cs_Mo_fails (fun M hS => ?_)) hS)
              refine jj_iret dd_Mo_prewrite_94 rfl rfl ?_
              rw [if_pos h81] at hQ
              exact ⟨_, hS, hQ⟩
            · skip
              refine jj_iload 0 dd_Mo_prewrite_84 rfl ?_
              refine jj_if_ne (tgt := 95) dd_Mo_prewrite_86 (by decide) (fun h86 => ?_) (fun h86 => ?_)
              · skip
                refine jj_aload_n 2 dd_Mo_prewrite_95 rfl ?_
                refine jj_iload_n 4 dd_Mo_prewrite_96 rfl ?_
                refine jj_iload_n 1 dd_Mo_prewrite_97 rfl ?_
                refine jj_callV (ci := 7) [_, _] [] 0 0 dd_Mo_prewrite_98 cs_Mo_174 ci_Mo_174 (hS.1.1 60 _ rfl) ⟨by decide, rfl⟩ rfl (Nat.le_of_ble_eq_true rfl) ⟨(Nat.le_of_ble_eq_true rfl), (Nat.le_of_ble_eq_true rfl)⟩ ⟨(Nat.le_of_ble_eq_true rfl), (Nat.le_of_ble_eq_true rfl)⟩ rfl (cs_use (cs_Mo_overtaken (by first | exact hr | exact hr3) (by first | omega | (show rec_ F1 ≤ 1540; omega)) (fun M hS => ?_)) hS)
                refine jj_if_eq (tgt := 111) dd_Mo_prewrite_101 (by decide) (fun h101 => ?_) (fun h101 => ?_)
                · skip
                  skip
                  refine jj_aload_n 2 dd_Mo_prewrite_111 rfl ?_
                  refine jj_iload_n 3 dd_Mo_prewrite_112 rfl ?_
                  refine jj_callV (ci := 7) [_] [] 0 0 dd_Mo_prewrite_113 cs_Mo_155 ci_Mo_155 (hS.1.1 60 _ rfl) ⟨by decide, rfl⟩ rfl (Nat.le_of_ble_eq_true rfl) ⟨(Nat.le_of_ble_eq_true rfl), (Nat.le_of_ble_eq_true rfl)⟩ ⟨(Nat.le_of_ble_eq_true rfl), (Nat.le_of_ble_eq_true rfl)⟩ rfl (cs_use (cs_Mo_first (c := c) hc (fun M hS => ?_)) hS)
                  refine jj_istore (lv' := [(4, .int _), (3, .int _), (0, .ref (g 60)), (1, .int (nI (c))), (2, .int (nI (i)))]) dd_Mo_prewrite_116 (Nat.le_of_ble_eq_true rfl) rfl ?_
                  refine jj_aload_n 2 dd_Mo_prewrite_118 rfl ?_
                  refine jj_iload_n 3 dd_Mo_prewrite_119 rfl ?_
                  refine jj_iload_n 4 dd_Mo_prewrite_120 rfl ?_
                  refine jj_iload 0 dd_Mo_prewrite_121 rfl ?_
                  refine jj_callV (ci := 7) [_, _, _] [] 0 0 dd_Mo_prewrite_123 cs_Mo_177 ci_Mo_177 (hS.1.1 60 _ rfl) ⟨by decide, rfl⟩ rfl (Nat.le_of_ble_eq_true rfl) ⟨(Nat.le_of_ble_eq_true rfl), (Nat.le_of_ble_eq_true rfl)⟩ ⟨(Nat.le_of_ble_eq_true rfl), (Nat.le_of_ble_eq_true rfl)⟩ rfl (cs_use (cs_Mo_locks (c := c) (i := i) hc hi (fun M hS => ?_)) hS)
                  refine jj_if_ne (tgt := 135) dd_Mo_prewrite_126 (by decide) (fun h126 => ?_) (fun h126 => ?_)
                  · skip
                    refine jj_aload_n 2 dd_Mo_prewrite_135 rfl ?_
                    refine jj_rS (n := 89) hS dd_Mo_prewrite_136 ff_Mo_84 rfl (fun _ => rfl) rfl ?_
                    refine jj_bipush (v := 12) dd_Mo_prewrite_139 rfl ?_
                    refine jj_iload_n 3 dd_Mo_prewrite_141 rfl ?_
                    refine jj_imul dd_Mo_prewrite_142 ?_
                    refine jj_ti (x' := nI (12 * c)) (pk_mul (12) (c)) ?_
                    refine jj_iload_n 4 dd_Mo_prewrite_143 rfl ?_
                    refine jj_iadd dd_Mo_prewrite_144 ?_
                    refine jj_ti (x' := nI ((12 * c) + (i))) (nI_add (12 * c) (i)) ?_
                    refine jj_iconst (v := 1) dd_Mo_prewrite_145 rfl ?_
                    refine jj_zsS hS dd_Mo_prewrite_146 rfl (vp_in_nI (n := (12 * c) + (i)) (by omega) (by decide)) rfl ((12 * c) + (i)) (nI_clamp (n := (12 * c) + (i)) (by omega)) (fun M hS => ?_)
                    refine jj_iconst (v := 1) dd_Mo_prewrite_147 rfl ?_
                    refine jj_iret dd_Mo_prewrite_148 rfl rfl ?_
                    rw [if_neg h81, if_neg h86, if_pos h101, if_neg h126] at hQ
                    exact ⟨_, hS, hQ⟩
                  · skip
                    refine jj_aload_n 2 dd_Mo_prewrite_129 rfl ?_
                    refine jj_iconst (v := 3) dd_Mo_prewrite_130 rfl ?_
                    refine jj_callV (ci := 7) [_] [] 0 0 dd_Mo_prewrite_131 cs_Mo_134 ci_Mo_134 (hS.1.1 60 _ rfl) ⟨by decide, rfl⟩ rfl (Nat.le_of_ble_eq_true rfl) ⟨(Nat.le_of_ble_eq_true rfl), (Nat.le_of_ble_eq_true rfl)⟩ ⟨(Nat.le_of_ble_eq_true rfl), (Nat.le_of_ble_eq_true rfl)⟩ rfl (cs_use (cs_Mo_fails (fun M hS => ?_)) hS)
                    refine jj_iret dd_Mo_prewrite_134 rfl rfl ?_
                    rw [if_neg h81, if_neg h86, if_pos h101, if_pos h126] at hQ
                    exact ⟨_, hS, hQ⟩
                · skip
                  refine jj_aload_n 2 dd_Mo_prewrite_104 rfl ?_
                  refine jj_iload_n 3 dd_Mo_prewrite_105 rfl ?_
                  refine jj_iconst (v := 0) dd_Mo_prewrite_106 rfl ?_
                  refine jj_callV (ci := 7) [_, _] [] 0 0 dd_Mo_prewrite_107 cs_Mo_158 ci_Mo_158 (hS.1.1 60 _ rfl) ⟨by decide, rfl⟩ rfl (Nat.le_of_ble_eq_true rfl) ⟨(Nat.le_of_ble_eq_true rfl), (Nat.le_of_ble_eq_true rfl)⟩ ⟨(Nat.le_of_ble_eq_true rfl), (Nat.le_of_ble_eq_true rfl)⟩ rfl (cs_use (cs_Mo_ends (c := c) hc (fun M hS => ?_)) hS)
                  refine jj_iret dd_Mo_prewrite_110 rfl rfl ?_
                  rw [if_neg h81, if_neg h86, if_neg h101] at hQ
                  exact ⟨_, hS, hQ⟩
              · skip
                refine jj_aload_n 2 dd_Mo_prewrite_89 rfl ?_
                refine jj_iconst (v := 3) dd_Mo_prewrite_90 rfl ?_
                refine jj_callV (ci := 7) [_] [] 0 0 dd_Mo_prewrite_91 cs_Mo_134 ci_Mo_134 (hS.1.1 60 _ rfl) ⟨by decide, rfl⟩ rfl (Nat.le_of_ble_eq_true rfl) ⟨(Nat.le_of_ble_eq_true rfl), (Nat.le_of_ble_eq_true rfl)⟩ ⟨(Nat.le_of_ble_eq_true rfl), (Nat.le_of_ble_eq_true rfl)⟩ rfl (cs_use (cs_Mo_fails (fun M hS => ?_)) hS)
                refine jj_iret dd_Mo_prewrite_94 rfl rfl ?_
                rw [if_neg h81, if_pos h86] at hQ
                exact ⟨_, hS, hQ⟩
        · skip
          refine jj_aload_n 1 dd_Mo_prewrite_55 rfl ?_
          refine jj_iload_n 2 dd_Mo_prewrite_56 rfl ?_
          refine jj_iconst (v := 0) dd_Mo_prewrite_57 rfl ?_
          refine jj_callV (ci := 7) [_, _] [] 0 0 dd_Mo_prewrite_58 cs_Mo_158 ci_Mo_158 (hS.1.1 60 _ rfl) ⟨by decide, rfl⟩ rfl (Nat.le_of_ble_eq_true rfl) ⟨(Nat.le_of_ble_eq_true rfl), (Nat.le_of_ble_eq_true rfl)⟩ ⟨(Nat.le_of_ble_eq_true rfl), (Nat.le_of_ble_eq_true rfl)⟩ rfl (cs_use (cs_Mo_ends (c := c) hc (fun M hS => ?_)) hS)
          refine jj_iret dd_Mo_prewrite_61 rfl rfl ?_
          rw [if_pos h15, if_neg h31, if_neg h43, if_neg h52] at hQ
          exact ⟨_, hS, hQ⟩
  · skip
    refine jj_aload_n 1 dd_Mo_prewrite_18 rfl ?_
    refine jj_iconst (v := 3) dd_Mo_prewrite_19 rfl ?_
    refine jj_callV (ci := 7) [_] [] 0 0 dd_Mo_prewrite_20 cs_Mo_134 ci_Mo_134 (hS.1.1 60 _ rfl) ⟨by decide, rfl⟩ rfl (Nat.le_of_ble_eq_true rfl) ⟨(Nat.le_of_ble_eq_true rfl), (Nat.le_of_ble_eq_true rfl)⟩ ⟨(Nat.le_of_ble_eq_true rfl), (Nat.le_of_ble_eq_true rfl)⟩ rfl (cs_use (cs_Mo_fails (fun M hS => ?_)) hS)
    refine jj_iret dd_Mo_prewrite_23 rfl rfl ?_
    rw [if_neg h15] at hQ
    exact ⟨_, hS, hQ⟩
set_option maxRecDepth 20000 in
theorem cs_Mo_decide {l : Launch} {g : Nat → Nat} {S : ss_} {Q : Option Value → ss_ → Prop} {c : Nat} (hc : c < 4) (hr : S.1 60 11 = nI (rec_ S.1)) (hr2 : rec_ S.1 < 1538) (hQ : de_ S.1 c (fun r F => Q (some (.int r)) (F, S.2))) : cs_ l yy_Mo_decide bb_Mo_decide 3 (some .int) 2 0 0 g [.ref (g 60), .int (nI c)] S Q := by
  intro M hS
  refine ct_of (by decide) (Nat.le_of_ble_eq_true rfl) (fun G A => ?_)
  have hfi : fi_ S.1 c ≤ 11 := fi_le S.1 c 11 0
  unfold de_ dx_ at hQ
  refine jj_aload_n 0 dd_Mo_decide_0 rfl ?_
  refine jj_iload_n 1 dd_Mo_decide_1 rfl ?_
  refine jj_callV (ci := 7) [_] [] 0 0 dd_Mo_decide_2 cs_Mo_155 ci_Mo_155 (hS.1.1 60 _ rfl) ⟨by decide, rfl⟩ rfl (Nat.le_of_ble_eq_true rfl) ⟨(Nat.le_of_ble_eq_true rfl), (Nat.le_of_ble_eq_true rfl)⟩ ⟨(Nat.le_of_ble_eq_true rfl), (Nat.le_of_ble_eq_true rfl)⟩ rfl (cs_use (cs_Mo_first (c := c) hc (fun M hS => ?_)) hS)
  refine jj_istore_n (lv' := [(2, .int (nI (fi_ S.1 c))), (0, .ref (g 60)), (1, .int (nI (c)))]) dd_Mo_decide_5 (Nat.le_of_ble_eq_true rfl) rfl ?_
  refine jj_aload_n 1 dd_Mo_decide_6 rfl ?_
  refine jj_rS (n := 77) hS dd_Mo_decide_7 ff_Mo_47 rfl (fun _ => rfl) rfl ?_
  refine jj_iload_n 0 dd_Mo_decide_10 rfl ?_
  refine jj_iconst (v := 4) dd_Mo_decide_11 rfl ?_
  refine jj_idiv dd_Mo_decide_12 (by decide) ?_
  refine jj_ti (x' := nI ((fi_ S.1 c) / 4)) (pk_div (a := fi_ S.1 c) (d := 4) (by omega) (by decide) (by decide)) ?_
  refine jj_zS hS dd_Mo_decide_13 rfl (vp_in_nI (n := (fi_ S.1 c) / 4) (by omega) (by decide)) ((fi_ S.1 c) / 4) (nI_clamp (n := (fi_ S.1 c) / 4) (by omega)) ?_
  refine jj_if_eq (tgt := 23) dd_Mo_decide_14 (by decide) (fun h14 => ?_) (fun h14 => ?_)
  · skip
    refine jj_aload_n 1 dd_Mo_decide_23 rfl ?_
    refine jj_iload_n 0 dd_Mo_decide_24 rfl ?_
    refine jj_aload_n 1 dd_Mo_decide_25 rfl ?_
    refine jj_rS (n := 84) hS dd_Mo_decide_26 ff_Mo_69 rfl (fun _ => rfl) rfl ?_
    refine jj_iload_n 2 dd_Mo_decide_29 rfl ?_
    refine jj_aS hS dd_Mo_decide_30 rfl (vp_in_nI (n := c) (by omega) (by decide)) (c) (nI_clamp (n := c) (by omega)) ?_
    refine jj_callV (ci := 7) [_, _] [] 0 0 dd_Mo_decide_31 cs_Mo_113 ci_Mo_113 (hS.1.1 60 _ rfl) ⟨by decide, rfl⟩ rfl (Nat.le_of_ble_eq_true rfl) ⟨(Nat.le_of_ble_eq_true rfl), (Nat.le_of_ble_eq_true rfl)⟩ ⟨(Nat.le_of_ble_eq_true rfl), (Nat.le_of_ble_eq_true rfl)⟩ rfl (cs_use (cs_Mo_decision hr (by omega) (fun M hS => ?_)) hS)
    refine jj_if_ne (tgt := 79) dd_Mo_decide_34 (by decide) (fun h34 => ?_) (fun h34 => ?_)
    · skip
      refine jj_aload_n 1 dd_Mo_decide_79 rfl ?_
      refine jj_rS (n := 86) hS dd_Mo_decide_80 ff_Mo_75 rfl (fun _ => rfl) rfl ?_
      refine jj_iload_n 2 dd_Mo_decide_83 rfl ?_
      refine jj_iconst (v := 1) dd_Mo_decide_84 rfl ?_
      refine jj_zsS hS dd_Mo_decide_85 rfl (vp_in_nI (n := c) (by omega) (by decide)) rfl (c) (nI_clamp (n := c) (by omega)) (fun M hS => ?_)
      refine jj_aload_n 1 dd_Mo_decide_86 rfl ?_
      refine jj_iload_n 2 dd_Mo_decide_87 rfl ?_
      refine jj_iconst (v := 1) dd_Mo_decide_88 rfl ?_
      refine jj_callV (ci := 7) [_, _] [] 0 0 dd_Mo_decide_89 cs_Mo_161 ci_Mo_161 (hS.1.1 60 _ rfl) ⟨by decide, rfl⟩ rfl (Nat.le_of_ble_eq_true rfl) ⟨(Nat.le_of_ble_eq_true rfl), (Nat.le_of_ble_eq_true rfl)⟩ ⟨(Nat.le_of_ble_eq_true rfl), (Nat.le_of_ble_eq_true rfl)⟩ rfl (cs_use (cs_Mo_nextCell (c := c) hc (fun M hS => ?_)) hS)
      refine jj_bipush (v := 12) dd_Mo_decide_92 rfl ?_
      refine jj_icmp_ne (tgt := 106) dd_Mo_decide_94 (by decide) (fun h94 => ?_) (fun h94 => ?_)
      · skip
        refine jj_iconst (v := 3) dd_Mo_decide_106 rfl ?_
        refine jj_iret dd_Mo_decide_107 rfl rfl ?_
        rw [if_pos h14, if_neg h34, if_neg h94] at hQ
        exact ⟨_, hS, hQ⟩
      · skip
        refine jj_aload_n 1 dd_Mo_decide_97 rfl ?_
        refine jj_iload_n 2 dd_Mo_decide_98 rfl ?_
        refine jj_iconst (v := 4) dd_Mo_decide_99 rfl ?_
        refine jj_callV (ci := 7) [_, _] [] 0 0 dd_Mo_decide_100 cs_Mo_158 ci_Mo_158 (hS.1.1 60 _ rfl) ⟨by decide, rfl⟩ rfl (Nat.le_of_ble_eq_true rfl) ⟨(Nat.le_of_ble_eq_true rfl), (Nat.le_of_ble_eq_true rfl)⟩ ⟨(Nat.le_of_ble_eq_true rfl), (Nat.le_of_ble_eq_true rfl)⟩ rfl (cs_use (cs_Mo_ends (c := c) hc (fun M hS => ?_)) hS)
        refine jj_goto (tgt := 107) dd_Mo_decide_103 (by decide) ?_
        refine jj_iret dd_Mo_decide_107 rfl rfl ?_
        rw [if_pos h14, if_neg h34, if_pos h94] at hQ
        exact ⟨_, hS, hQ⟩
    · skip
      refine jj_aload_n 1 dd_Mo_decide_37 rfl ?_
      refine jj_rS (n := 65) hS dd_Mo_decide_38 ff_Mo_13 rfl (fun _ => rfl) rfl ?_
      refine jj_iload_n 0 dd_Mo_decide_41 rfl ?_
      refine jj_aS hS dd_Mo_decide_42 rfl (vp_in_nI (n := fi_ S.1 c) (by omega) (by decide)) (fi_ S.1 c) (nI_clamp (n := fi_ S.1 c) (by omega)) ?_
      refine jj_aload_n 1 dd_Mo_decide_43 rfl ?_
      refine jj_rS (n := 84) hS dd_Mo_decide_44 ff_Mo_69 rfl (fun _ => rfl) rfl ?_
      refine jj_iload_n 2 dd_Mo_decide_47 rfl ?_
      refine jj_aS hS dd_Mo_decide_48 rfl (vp_in_nI (n := c) (by omega) (by decide)) (c) (nI_clamp (n := c) (by omega)) ?_
      refine jj_icmp_eq (tgt := 59) dd_Mo_decide_49 (by decide) (fun h49 => ?_) (fun h49 => ?_)
      · skip
        refine jj_aload_n 1 dd_Mo_decide_59 rfl ?_
        refine jj_iload_n 0 dd_Mo_decide_60 rfl ?_
        refine jj_aload_n 1 dd_Mo_decide_61 rfl ?_
        refine jj_rS (n := 85) hS dd_Mo_decide_62 ff_Mo_72 rfl (fun _ => rfl) rfl ?_
        refine jj_iload_n 2 dd_Mo_decide_65 rfl ?_
        refine jj_aS hS dd_Mo_decide_66 rfl (vp_in_nI (n := c) (by omega) (by decide)) (c) (nI_clamp (n := c) (by omega)) ?_
        refine jj_callV (ci := 7) [_, _] [] 0 0 dd_Mo_decide_67 cs_Mo_117 ci_Mo_117 (hS.1.1 60 _ rfl) ⟨by decide, rfl⟩ rfl (Nat.le_of_ble_eq_true rfl) ⟨(Nat.le_of_ble_eq_true rfl), (Nat.le_of_ble_eq_true rfl)⟩ ⟨(Nat.le_of_ble_eq_true rfl), (Nat.le_of_ble_eq_true rfl)⟩ rfl (cs_use (cs_Mo_done (i := fi_ S.1 c) (by omega) hr (by omega) (fun M hS => ?_)) hS)
        refine jj_if_ne (tgt := 79) dd_Mo_decide_70 (by decide) (fun h70 => ?_) (fun h70 => ?_)
        · skip
          refine jj_aload_n 1 dd_Mo_decide_79 rfl ?_
          refine jj_rS (n := 86) hS dd_Mo_decide_80 ff_Mo_75 rfl (fun _ => rfl) rfl ?_
          refine jj_iload_n 2 dd_Mo_decide_83 rfl ?_
          refine jj_iconst (v := 1) dd_Mo_decide_84 rfl ?_
          refine jj_zsS hS dd_Mo_decide_85 rfl (vp_in_nI (n := c) (by omega) (by decide)) rfl (c) (nI_clamp (n := c) (by omega)) (fun M hS => ?_)
          refine jj_aload_n 1 dd_Mo_decide_86 rfl ?_
          refine jj_iload_n 2 dd_Mo_decide_87 rfl ?_
          refine jj_iconst (v := 1) dd_Mo_decide_88 rfl ?_
          refine jj_callV (ci := 7) [_, _] [] 0 0 dd_Mo_decide_89 cs_Mo_161 ci_Mo_161 (hS.1.1 60 _ rfl) ⟨by decide, rfl⟩ rfl (Nat.le_of_ble_eq_true rfl) ⟨(Nat.le_of_ble_eq_true rfl), (Nat.le_of_ble_eq_true rfl)⟩ ⟨(Nat.le_of_ble_eq_true rfl), (Nat.le_of_ble_eq_true rfl)⟩ rfl (cs_use (cs_Mo_nextCell (c := c) hc (fun M hS => ?_)) hS)
          refine jj_bipush (v := 12) dd_Mo_decide_92 rfl ?_
          refine jj_icmp_ne (tgt := 106) dd_Mo_decide_94 (by decide) (fun h94 => ?_) (fun h94 => ?_)
          · skip
            refine jj_iconst (v := 3) dd_Mo_decide_106 rfl ?_
            refine jj_iret dd_Mo_decide_107 rfl rfl ?_
            rw [if_pos h14, if_pos h34, if_pos h49, if_neg h70, if_neg h94] at hQ
            exact ⟨_, hS, hQ⟩
          · skip
            refine jj_aload_n 1 dd_Mo_decide_97 rfl ?_
            refine jj_iload_n 2 dd_Mo_decide_98 rfl ?_
            refine jj_iconst (v := 4) dd_Mo_decide_99 rfl ?_
            refine jj_callV (ci := 7) [_, _] [] 0 0 dd_Mo_decide_100 cs_Mo_158 ci_Mo_158 (hS.1.1 60 _ rfl) ⟨by decide, rfl⟩ rfl (Nat.le_of_ble_eq_true rfl) ⟨(Nat.le_of_ble_eq_true rfl), (Nat.le_of_ble_eq_true rfl)⟩ ⟨(Nat.le_of_ble_eq_true rfl), (Nat.le_of_ble_eq_true rfl)⟩ rfl (cs_use (cs_Mo_ends (c := c) hc (fun M hS => ?_)) hS)
            refine jj_goto (tgt := 107) dd_Mo_decide_103 (by decide) ?_
            refine jj_iret dd_Mo_decide_107 rfl rfl ?_
            rw [if_pos h14, if_pos h34, if_pos h49, if_neg h70, if_pos h94] at hQ
            exact ⟨_, hS, hQ⟩
        · skip
          refine jj_aload_n 1 dd_Mo_decide_73 rfl ?_
          refine jj_iconst (v := 3) dd_Mo_decide_74 rfl ?_
          refine jj_callV (ci := 7) [_] [] 0 0 dd_Mo_decide_75 cs_Mo_134 ci_Mo_134 (hS.1.1 60 _ rfl) ⟨by decide, rfl⟩ rfl (Nat.le_of_ble_eq_true rfl) ⟨(Nat.le_of_ble_eq_true rfl), (Nat.le_of_ble_eq_true rfl)⟩ ⟨(Nat.le_of_ble_eq_true rfl), (Nat.le_of_ble_eq_true rfl)⟩ rfl (cs_use (cs_Mo_fails (fun M hS => ?_)) hS)
          refine jj_iret dd_Mo_decide_78 rfl rfl ?_
          rw [if_pos h14, if_pos h34, if_pos h49, if_pos h70] at hQ
          exact ⟨_, hS, hQ⟩
      · skip
        refine jj_aload_n 1 dd_Mo_decide_52 rfl ?_
        refine jj_iload_n 2 dd_Mo_decide_53 rfl ?_
        refine jj_iconst (v := 0) dd_Mo_decide_54 rfl ?_
        refine jj_callV (ci := 7) [_, _] [] 0 0 dd_Mo_decide_55 cs_Mo_158 ci_Mo_158 (hS.1.1 60 _ rfl) ⟨by decide, rfl⟩ rfl (Nat.le_of_ble_eq_true rfl) ⟨(Nat.le_of_ble_eq_true rfl), (Nat.le_of_ble_eq_true rfl)⟩ ⟨(Nat.le_of_ble_eq_true rfl), (Nat.le_of_ble_eq_true rfl)⟩ rfl (cs_use (cs_Mo_ends (c := c) hc (fun M hS => ?_)) hS)
        refine jj_iret dd_Mo_decide_58 rfl rfl ?_
        rw [if_pos h14, if_pos h34, if_neg h49] at hQ
        exact ⟨_, hS, hQ⟩
  · skip
    refine jj_aload_n 1 dd_Mo_decide_17 rfl ?_
    refine jj_iconst (v := 3) dd_Mo_decide_18 rfl ?_
    refine jj_callV (ci := 7) [_] [] 0 0 dd_Mo_decide_19 cs_Mo_134 ci_Mo_134 (hS.1.1 60 _ rfl) ⟨by decide, rfl⟩ rfl (Nat.le_of_ble_eq_true rfl) ⟨(Nat.le_of_ble_eq_true rfl), (Nat.le_of_ble_eq_true rfl)⟩ ⟨(Nat.le_of_ble_eq_true rfl), (Nat.le_of_ble_eq_true rfl)⟩ rfl (cs_use (cs_Mo_fails (fun M hS => ?_)) hS)
    refine jj_iret dd_Mo_decide_22 rfl rfl ?_
    rw [if_neg h14] at hQ
    exact ⟨_, hS, hQ⟩
set_option maxRecDepth 20000 in
theorem cs_Mo_follow {l : Launch} {g : Nat → Nat} {S : ss_} {Q : Option Value → ss_ → Prop} {c : Nat} (hc : c < 4) (hn : nx_ S.1 c 1 < 12) (hr : S.1 60 11 = nI (rec_ S.1)) (hr2 : rec_ S.1 < 1538) (hQ : fo_ S.1 c (fun r F => Q (some (.int r)) (F, S.2))) : cs_ l yy_Mo_follow bb_Mo_follow 3 (some .int) 2 0 0 g [.ref (g 60), .int (nI c)] S Q := by
  intro M hS
  refine ct_of (by decide) (Nat.le_of_ble_eq_true rfl) (fun G A => ?_)
  unfold fo_ fx_ at hQ
  refine jj_aload_n 0 dd_Mo_follow_0 rfl ?_
  refine jj_iload_n 1 dd_Mo_follow_1 rfl ?_
  refine jj_iconst (v := 1) dd_Mo_follow_2 rfl ?_
  refine jj_callV (ci := 7) [_, _] [] 0 0 dd_Mo_follow_3 cs_Mo_161 ci_Mo_161 (hS.1.1 60 _ rfl) ⟨by decide, rfl⟩ rfl (Nat.le_of_ble_eq_true rfl) ⟨(Nat.le_of_ble_eq_true rfl), (Nat.le_of_ble_eq_true rfl)⟩ ⟨(Nat.le_of_ble_eq_true rfl), (Nat.le_of_ble_eq_true rfl)⟩ rfl (cs_use (cs_Mo_nextCell (c := c) hc (fun M hS => ?_)) hS)
  refine jj_istore_n (lv' := [(2, .int (nI (nx_ S.1 c 1))), (0, .ref (g 60)), (1, .int (nI (c)))]) dd_Mo_follow_6 (Nat.le_of_ble_eq_true rfl) rfl ?_
  refine jj_aload_n 1 dd_Mo_follow_7 rfl ?_
  refine jj_rS (n := 77) hS dd_Mo_follow_8 ff_Mo_47 rfl (fun _ => rfl) rfl ?_
  refine jj_iload_n 0 dd_Mo_follow_11 rfl ?_
  refine jj_iconst (v := 4) dd_Mo_follow_12 rfl ?_
  refine jj_idiv dd_Mo_follow_13 (by decide) ?_
  refine jj_ti (x' := nI ((nx_ S.1 c 1) / 4)) (pk_div (a := nx_ S.1 c 1) (d := 4) (by omega) (by decide) (by decide)) ?_
  refine jj_zS hS dd_Mo_follow_14 rfl (vp_in_nI (n := (nx_ S.1 c 1) / 4) (by omega) (by decide)) ((nx_ S.1 c 1) / 4) (nI_clamp (n := (nx_ S.1 c 1) / 4) (by omega)) ?_
  refine jj_if_eq (tgt := 24) dd_Mo_follow_15 (by decide) (fun h15 => ?_) (fun h15 => ?_)
  · skip
    refine jj_aload_n 1 dd_Mo_follow_24 rfl ?_
    refine jj_rS (n := 65) hS dd_Mo_follow_25 ff_Mo_13 rfl (fun _ => rfl) rfl ?_
    refine jj_iload_n 0 dd_Mo_follow_28 rfl ?_
    refine jj_aS hS dd_Mo_follow_29 rfl (vp_in_nI (n := nx_ S.1 c 1) (by omega) (by decide)) (nx_ S.1 c 1) (nI_clamp (n := nx_ S.1 c 1) (by omega)) ?_
    refine jj_aload_n 1 dd_Mo_follow_30 rfl ?_
    refine jj_rS (n := 84) hS dd_Mo_follow_31 ff_Mo_69 rfl (fun _ => rfl) rfl ?_
    refine jj_iload_n 2 dd_Mo_follow_34 rfl ?_
    refine jj_aS hS dd_Mo_follow_35 rfl (vp_in_nI (n := c) (by omega) (by decide)) (c) (nI_clamp (n := c) (by omega)) ?_
    refine jj_icmp_ne (tgt := 59) dd_Mo_follow_36 (by decide) (fun h36 => ?_) (fun h36 => ?_)
    · skip
      refine jj_aload_n 1 dd_Mo_follow_59 rfl ?_
      refine jj_rS (n := 90) hS dd_Mo_follow_60 ff_Mo_87 rfl (fun _ => rfl) rfl ?_
      refine jj_bipush (v := 12) dd_Mo_follow_63 rfl ?_
      refine jj_iload_n 2 dd_Mo_follow_65 rfl ?_
      refine jj_imul dd_Mo_follow_66 ?_
      refine jj_ti (x' := nI (12 * c)) (pk_mul (12) (c)) ?_
      refine jj_iload_n 0 dd_Mo_follow_67 rfl ?_
      refine jj_iadd dd_Mo_follow_68 ?_
      refine jj_ti (x' := nI ((12 * c) + (nx_ S.1 c 1))) (nI_add (12 * c) (nx_ S.1 c 1)) ?_
      refine jj_iconst (v := 1) dd_Mo_follow_69 rfl ?_
      refine jj_zsS hS dd_Mo_follow_70 rfl (vp_in_nI (n := (12 * c) + (nx_ S.1 c 1)) (by omega) (by decide)) rfl ((12 * c) + (nx_ S.1 c 1)) (nI_clamp (n := (12 * c) + (nx_ S.1 c 1)) (by omega)) (fun M hS => ?_)
      refine jj_aload_n 1 dd_Mo_follow_71 rfl ?_
      refine jj_iload_n 2 dd_Mo_follow_72 rfl ?_
      refine jj_iconst (v := 1) dd_Mo_follow_73 rfl ?_
      refine jj_callV (ci := 7) [_, _] [] 0 0 dd_Mo_follow_74 cs_Mo_161 ci_Mo_161 (hS.1.1 60 _ rfl) ⟨by decide, rfl⟩ rfl (Nat.le_of_ble_eq_true rfl) ⟨(Nat.le_of_ble_eq_true rfl), (Nat.le_of_ble_eq_true rfl)⟩ ⟨(Nat.le_of_ble_eq_true rfl), (Nat.le_of_ble_eq_true rfl)⟩ rfl (cs_use (cs_Mo_nextCell (c := c) hc (fun M hS => ?_)) hS)
      refine jj_bipush (v := 12) dd_Mo_follow_77 rfl ?_
      refine jj_icmp_ne (tgt := 92) dd_Mo_follow_79 (by decide) (fun h79 => ?_) (fun h79 => ?_)
      · skip
        refine jj_iconst (v := 5) dd_Mo_follow_92 rfl ?_
        refine jj_iret dd_Mo_follow_93 rfl rfl ?_
        rw [if_pos h15, if_neg h36, if_neg h79] at hQ
        exact ⟨_, hS, hQ⟩
      · skip
        refine jj_aload_n 1 dd_Mo_follow_82 rfl ?_
        refine jj_iload_n 2 dd_Mo_follow_83 rfl ?_
        refine jj_bipush (v := 6) dd_Mo_follow_84 rfl ?_
        refine jj_callV (ci := 7) [_, _] [] 0 0 dd_Mo_follow_86 cs_Mo_158 ci_Mo_158 (hS.1.1 60 _ rfl) ⟨by decide, rfl⟩ rfl (Nat.le_of_ble_eq_true rfl) ⟨(Nat.le_of_ble_eq_true rfl), (Nat.le_of_ble_eq_true rfl)⟩ ⟨(Nat.le_of_ble_eq_true rfl), (Nat.le_of_ble_eq_true rfl)⟩ rfl (cs_use (cs_Mo_ends (c := c) hc (fun M hS => ?_)) hS)
        refine jj_goto (tgt := 93) dd_Mo_follow_89 (by decide) ?_
        refine jj_iret dd_Mo_follow_93 rfl rfl ?_
        rw [if_pos h15, if_neg h36, if_pos h79] at hQ
        exact ⟨_, hS, hQ⟩
    · skip
      refine jj_aload_n 1 dd_Mo_follow_39 rfl ?_
      refine jj_iload_n 0 dd_Mo_follow_40 rfl ?_
      refine jj_aload_n 1 dd_Mo_follow_41 rfl ?_
      refine jj_rS (n := 85) hS dd_Mo_follow_42 ff_Mo_72 rfl (fun _ => rfl) rfl ?_
      refine jj_iload_n 2 dd_Mo_follow_45 rfl ?_
      refine jj_aS hS dd_Mo_follow_46 rfl (vp_in_nI (n := c) (by omega) (by decide)) (c) (nI_clamp (n := c) (by omega)) ?_
      refine jj_callV (ci := 7) [_, _] [] 0 0 dd_Mo_follow_47 cs_Mo_117 ci_Mo_117 (hS.1.1 60 _ rfl) ⟨by decide, rfl⟩ rfl (Nat.le_of_ble_eq_true rfl) ⟨(Nat.le_of_ble_eq_true rfl), (Nat.le_of_ble_eq_true rfl)⟩ ⟨(Nat.le_of_ble_eq_true rfl), (Nat.le_of_ble_eq_true rfl)⟩ rfl (cs_use (cs_Mo_done (i := nx_ S.1 c 1) hn hr (by omega) (fun M hS => ?_)) hS)
      refine jj_if_ne (tgt := 59) dd_Mo_follow_50 (by decide) (fun h50 => ?_) (fun h50 => ?_)
      · skip
        refine jj_aload_n 1 dd_Mo_follow_59 rfl ?_
        refine jj_rS (n := 90) hS dd_Mo_follow_60 ff_Mo_87 rfl (fun _ => rfl) rfl ?_
        refine jj_bipush (v := 12) dd_Mo_follow_63 rfl ?_
        refine jj_iload_n 2 dd_Mo_follow_65 rfl ?_
        refine jj_imul dd_Mo_follow_66 ?_
        refine jj_ti (x' := nI (12 * c)) (pk_mul (12) (c)) ?_
        refine jj_iload_n 0 dd_Mo_follow_67 rfl ?_
        refine jj_iadd dd_Mo_follow_68 ?_
        refine jj_ti (x' := nI ((12 * c) + (nx_ S.1 c 1))) (nI_add (12 * c) (nx_ S.1 c 1)) ?_
        refine jj_iconst (v := 1) dd_Mo_follow_69 rfl ?_
        refine jj_zsS hS dd_Mo_follow_70 rfl (vp_in_nI (n := (12 * c) + (nx_ S.1 c 1)) (by omega) (by decide)) rfl ((12 * c) + (nx_ S.1 c 1)) (nI_clamp (n := (12 * c) + (nx_ S.1 c 1)) (by omega)) (fun M hS => ?_)
        refine jj_aload_n 1 dd_Mo_follow_71 rfl ?_
        refine jj_iload_n 2 dd_Mo_follow_72 rfl ?_
        refine jj_iconst (v := 1) dd_Mo_follow_73 rfl ?_
        refine jj_callV (ci := 7) [_, _] [] 0 0 dd_Mo_follow_74 cs_Mo_161 ci_Mo_161 (hS.1.1 60 _ rfl) ⟨by decide, rfl⟩ rfl (Nat.le_of_ble_eq_true rfl) ⟨(Nat.le_of_ble_eq_true rfl), (Nat.le_of_ble_eq_true rfl)⟩ ⟨(Nat.le_of_ble_eq_true rfl), (Nat.le_of_ble_eq_true rfl)⟩ rfl (cs_use (cs_Mo_nextCell (c := c) hc (fun M hS => ?_)) hS)
        refine jj_bipush (v := 12) dd_Mo_follow_77 rfl ?_
        refine jj_icmp_ne (tgt := 92) dd_Mo_follow_79 (by decide) (fun h79 => ?_) (fun h79 => ?_)
        · skip
          refine jj_iconst (v := 5) dd_Mo_follow_92 rfl ?_
          refine jj_iret dd_Mo_follow_93 rfl rfl ?_
          rw [if_pos h15, if_pos h36, if_neg h50, if_neg h79] at hQ
          exact ⟨_, hS, hQ⟩
        · skip
          refine jj_aload_n 1 dd_Mo_follow_82 rfl ?_
          refine jj_iload_n 2 dd_Mo_follow_83 rfl ?_
          refine jj_bipush (v := 6) dd_Mo_follow_84 rfl ?_
          refine jj_callV (ci := 7) [_, _] [] 0 0 dd_Mo_follow_86 cs_Mo_158 ci_Mo_158 (hS.1.1 60 _ rfl) ⟨by decide, rfl⟩ rfl (Nat.le_of_ble_eq_true rfl) ⟨(Nat.le_of_ble_eq_true rfl), (Nat.le_of_ble_eq_true rfl)⟩ ⟨(Nat.le_of_ble_eq_true rfl), (Nat.le_of_ble_eq_true rfl)⟩ rfl (cs_use (cs_Mo_ends (c := c) hc (fun M hS => ?_)) hS)
          refine jj_goto (tgt := 93) dd_Mo_follow_89 (by decide) ?_
          refine jj_iret dd_Mo_follow_93 rfl rfl ?_
          rw [if_pos h15, if_pos h36, if_neg h50, if_pos h79] at hQ
          exact ⟨_, hS, hQ⟩
      · skip
        refine jj_aload_n 1 dd_Mo_follow_53 rfl ?_
        refine jj_iconst (v := 3) dd_Mo_follow_54 rfl ?_
        refine jj_callV (ci := 7) [_] [] 0 0 dd_Mo_follow_55 cs_Mo_134 ci_Mo_134 (hS.1.1 60 _ rfl) ⟨by decide, rfl⟩ rfl (Nat.le_of_ble_eq_true rfl) ⟨(Nat.le_of_ble_eq_true rfl), (Nat.le_of_ble_eq_true rfl)⟩ ⟨(Nat.le_of_ble_eq_true rfl), (Nat.le_of_ble_eq_true rfl)⟩ rfl (cs_use (cs_Mo_fails (fun M hS => ?_)) hS)
        refine jj_iret dd_Mo_follow_58 rfl rfl ?_
        rw [if_pos h15, if_pos h36, if_pos h50] at hQ
        exact ⟨_, hS, hQ⟩
  · skip
    refine jj_aload_n 1 dd_Mo_follow_18 rfl ?_
    refine jj_iconst (v := 3) dd_Mo_follow_19 rfl ?_
    refine jj_callV (ci := 7) [_] [] 0 0 dd_Mo_follow_20 cs_Mo_134 ci_Mo_134 (hS.1.1 60 _ rfl) ⟨by decide, rfl⟩ rfl (Nat.le_of_ble_eq_true rfl) ⟨(Nat.le_of_ble_eq_true rfl), (Nat.le_of_ble_eq_true rfl)⟩ ⟨(Nat.le_of_ble_eq_true rfl), (Nat.le_of_ble_eq_true rfl)⟩ rfl (cs_use (cs_Mo_fails (fun M hS => ?_)) hS)
    refine jj_iret dd_Mo_follow_23 rfl rfl ?_
    rw [if_neg h15] at hQ
    exact ⟨_, hS, hQ⟩
end
section
theorem nc_ {c n : Nat} {N : Int32} (hN : N.toInt = (n : Int)) (hc : c ≤ n) (hn : n < 2 ^ 31) : ¬ (nI c < 0 ∨ N < nI c) := by
  intro h
  rcases h with h | h
  · exact nI_pos (by omega) h
  · rw [Int32.lt_iff_toInt_lt, hN, nI_toInt (by omega)] at h
    omega
def zr_ (F : Nat → Nat → Int32) (c : Nat) : Nat → (Nat → Nat → Int32)
  | 0 => F
  | k + 1 => uf_ (uf_ (uf_ (uf_ (zr_ F c k) 87 (12 * c + k) 0) 88 (12 * c + k) 0) 89 (12 * c + k) 0) 90 (12 * c + k) 0
def be_F (F : Nat → Nat → Int32) (c : Nat) : Nat → Nat → Int32 := zr_ (uf_ (uf_ (uf_ (uf_ (ho_F F) 84 c (F 60 3 + 1 - 1)) 83 c 1) 85 c 0) 86 c 0) c 12
def be_ (F : Nat → Nat → Int32) (c : Nat) (K : Int32 → (Nat → Nat → Int32) → Prop) : Prop := if F 83 c = 0 then K (be_F F c 84 c) (be_F F c) else K 0 (uf_ F 60 1 2)
def ki_ (F : Nat → Nat → Int32) (c : Nat) (K : Int32 → (Nat → Nat → Int32) → Prop) : Prop := if F 83 c = 0 then K 0 F else K 1 (uf_ F 83 c 0)
def ce_ (F : Nat → Nat → Int32) (i : Nat) (K : Int32 → (Nat → Nat → Int32) → Prop) : Prop :=
  if F 77 (i / 4) = 0 then
    if F 65 i = 0 then K 0 F
    else cl_ F i (pn_ F i) (on_ F (pn_ F i)) (fun r F1 => if r = 1 then K 0 (uf_ F1 60 1 2) else if r = 0 then K 0 (uf_ F1 60 1 2) else if r = 2 then K 1 F1 else K 2 F1)
  else K 0 (uf_ F 60 1 2)
def cr_ (F : Nat → Nat → Int32) (t : Nat) (K : Int32 → (Nat → Nat → Int32) → Prop) : Prop := if F 77 t = 0 then K 1 (uf_ F 77 t 1) else K 0 F
def re_ (F : Nat → Nat → Int32) (t : Nat) (K : Int32 → (Nat → Nat → Int32) → Prop) : Prop := if F 77 t = 0 then K 0 F else K 1 (uf_ (uf_ F 77 t 0) 81 t 0)
def ch_F (F : Nat → Nat → Int32) (c i : Nat) (x y : Int32) : Nat → Nat → Int32 := if F 83 c = 1 then uf_ (uf_ F 87 (12 * c + i) x) 88 (12 * c + i) y else uf_ F 60 1 2
set_option maxRecDepth 20000 in
theorem cs_Mo_begin0 {l : Launch} {g : Nat → Nat} {S : ss_} {Q : Option Value → ss_ → Prop} {x : Int32} {F : Nat → Nat → Int32} (hF : uf_ S.1 60 1 0 = F) (hx : x < 0 ∨ 3 < x) (hQ : Q (some (.int 0)) (uf_ F 60 1 1, S.2)) : cs_ l yy_Mo_begin bb_Mo_begin 3 (some .int) 2 0 0 g [.ref (g 60), .int x] S Q := by
  intro M hS
  refine ct_of (by decide) (Nat.le_of_ble_eq_true rfl) (fun G A => ?_)
  refine jj_aload_n 0 dd_Mo_begin_0 rfl ?_
  refine jj_iconst (v := 0) dd_Mo_begin_1 rfl ?_
  refine jj_pS hS dd_Mo_begin_2 ⟨ff_Mo_93, rfl⟩ rfl (fun _ => rfl) ⟨rfl, rfl⟩ (fun M hS => ?_)
  rw [hF] at hS
  refine jj_aload_n 0 dd_Mo_begin_5 rfl ?_
  refine jj_iload_n 1 dd_Mo_begin_6 rfl ?_
  refine jj_callV (ci := 7) [_] [] 0 0 dd_Mo_begin_7 cs_Mo_131 ci_Mo_131 (hS.1.1 60 _ rfl) ⟨by decide, rfl⟩ rfl (Nat.le_of_ble_eq_true rfl) ⟨(Nat.le_of_ble_eq_true rfl), (Nat.le_of_ble_eq_true rfl)⟩ ⟨(Nat.le_of_ble_eq_true rfl), (Nat.le_of_ble_eq_true rfl)⟩ rfl (ct_Mo_isClient (fun hb => ?_) (fun hb hb2 => ?_))
  · skip
    refine jj_if_ne (tgt := 19) dd_Mo_begin_10 (by decide) (fun h => absurd h (by decide)) (fun _ => ?_)
    refine jj_aload_n 0 dd_Mo_begin_13 rfl ?_
    refine jj_iconst (v := 1) dd_Mo_begin_14 rfl ?_
    refine jj_callV (ci := 7) [_] [] 0 0 dd_Mo_begin_15 cs_Mo_134 ci_Mo_134 (hS.1.1 60 _ rfl) ⟨by decide, rfl⟩ rfl (Nat.le_of_ble_eq_true rfl) ⟨(Nat.le_of_ble_eq_true rfl), (Nat.le_of_ble_eq_true rfl)⟩ ⟨(Nat.le_of_ble_eq_true rfl), (Nat.le_of_ble_eq_true rfl)⟩ rfl (cs_use (cs_Mo_fails (fun M hS => ?_)) hS)
    refine jj_iret dd_Mo_begin_18 rfl rfl ?_
    exact ⟨_, hS, hQ⟩
  · skip
    exact absurd hx (fun h => h.elim hb hb2)
set_option maxRecDepth 20000 in
theorem cs_Mo_begin {l : Launch} {g : Nat → Nat} {S : ss_} {Q : Option Value → ss_ → Prop} {c : Nat} {F : Nat → Nat → Int32} (hF : uf_ S.1 60 1 0 = F) (hc : c < 4) (hQ : be_ F c (fun r F => Q (some (.int r)) (F, S.2))) : cs_ l yy_Mo_begin bb_Mo_begin 3 (some .int) 2 0 0 g [.ref (g 60), .int (nI c)] S Q := by
  intro M hS
  refine ct_of (by decide) (Nat.le_of_ble_eq_true rfl) (fun G A => ?_)
  unfold be_ at hQ
  have loop : ∀ (n k : Nat) (F1 : Nat → Nat → Int32) (M : mm_M), k + n = 12 → rp_ g M (zr_ F1 c k, S.2) → Q (some (.int (zr_ F1 c 12 84 c))) (zr_ F1 c 12, S.2) → jj_ l yy_Mo_begin bb_Mo_begin 3 (some .int) G (mm_R 2 0 0) A (mm_ret (qs_ g Q)) 0 0 70 [(2, .int (nI (12 * c + k))), (0, .ref (g 60)), (1, .int (nI (c)))] [] M := by
    intro n
    induction n with
    | zero =>
      intro k F1 M hk hS hq
      have hk : k = 12 := by omega
      subst hk
      refine jj_iload_n 0 dd_Mo_begin_70 rfl ?_
      refine jj_bipush (v := 12) dd_Mo_begin_71 rfl ?_
      refine jj_iload_n 2 dd_Mo_begin_73 rfl ?_
      refine jj_imul dd_Mo_begin_74 ?_
      refine jj_ti (x' := nI (12 * c)) (pk_mul (12) (c)) ?_
      refine jj_bipush (v := 12) dd_Mo_begin_75 rfl ?_
      refine jj_iadd dd_Mo_begin_77 ?_
      refine jj_ti (x' := nI ((12 * c) + (12))) (nI_add (12 * c) (12)) ?_
      refine jj_icmp_ge (tgt := 115) dd_Mo_begin_78 (by decide) (fun h78 => ?_) (fun h78 => ?_)
      · skip
        refine jj_aload_n 1 dd_Mo_begin_115 rfl ?_
        refine jj_rS (n := 84) hS dd_Mo_begin_116 ff_Mo_69 rfl (fun _ => rfl) rfl ?_
        refine jj_iload_n 2 dd_Mo_begin_119 rfl ?_
        refine jj_aS hS dd_Mo_begin_120 rfl (vp_in_nI (n := c) (by omega) (by decide)) (c) (nI_clamp (n := c) (by omega)) ?_
        refine jj_iret dd_Mo_begin_121 rfl rfl ?_
        exact ⟨_, hS, hq⟩
      · exact absurd (mm_rfl _) h78
    | succ n ih =>
      intro k F1 M hk hS hq
      refine jj_iload_n 0 dd_Mo_begin_70 rfl ?_
      refine jj_bipush (v := 12) dd_Mo_begin_71 rfl ?_
      refine jj_iload_n 2 dd_Mo_begin_73 rfl ?_
      refine jj_imul dd_Mo_begin_74 ?_
      refine jj_ti (x' := nI (12 * c)) (pk_mul (12) (c)) ?_
      refine jj_bipush (v := 12) dd_Mo_begin_75 rfl ?_
      refine jj_iadd dd_Mo_begin_77 ?_
      refine jj_ti (x' := nI ((12 * c) + (12))) (nI_add (12 * c) (12)) ?_
      refine jj_icmp_ge (tgt := 115) dd_Mo_begin_78 (by decide) (fun h78 => ?_) (fun h78 => ?_)
      · exact absurd h78 (nI_ge (by omega) (by omega))
      · skip
        refine jj_aload_n 1 dd_Mo_begin_81 rfl ?_
        refine jj_rS (n := 87) hS dd_Mo_begin_82 ff_Mo_78 rfl (fun _ => rfl) rfl ?_
        refine jj_iload_n 0 dd_Mo_begin_85 rfl ?_
        refine jj_iconst (v := 0) dd_Mo_begin_86 rfl ?_
        refine jj_asS hS dd_Mo_begin_87 rfl (vp_in_nI (n := 12 * c + k) (by omega) (by decide)) (12 * c + k) (nI_clamp (n := 12 * c + k) (by omega)) (fun M hS => ?_)
        refine jj_aload_n 1 dd_Mo_begin_88 rfl ?_
        refine jj_rS (n := 88) hS dd_Mo_begin_89 ff_Mo_81 rfl (fun _ => rfl) rfl ?_
        refine jj_iload_n 0 dd_Mo_begin_92 rfl ?_
        refine jj_iconst (v := 0) dd_Mo_begin_93 rfl ?_
        refine jj_asS hS dd_Mo_begin_94 rfl (vp_in_nI (n := 12 * c + k) (by omega) (by decide)) (12 * c + k) (nI_clamp (n := 12 * c + k) (by omega)) (fun M hS => ?_)
        refine jj_aload_n 1 dd_Mo_begin_95 rfl ?_
        refine jj_rS (n := 89) hS dd_Mo_begin_96 ff_Mo_84 rfl (fun _ => rfl) rfl ?_
        refine jj_iload_n 0 dd_Mo_begin_99 rfl ?_
        refine jj_iconst (v := 0) dd_Mo_begin_100 rfl ?_
        refine jj_zsS hS dd_Mo_begin_101 rfl (vp_in_nI (n := 12 * c + k) (by omega) (by decide)) rfl (12 * c + k) (nI_clamp (n := 12 * c + k) (by omega)) (fun M hS => ?_)
        refine jj_aload_n 1 dd_Mo_begin_102 rfl ?_
        refine jj_rS (n := 90) hS dd_Mo_begin_103 ff_Mo_87 rfl (fun _ => rfl) rfl ?_
        refine jj_iload_n 0 dd_Mo_begin_106 rfl ?_
        refine jj_iconst (v := 0) dd_Mo_begin_107 rfl ?_
        refine jj_zsS hS dd_Mo_begin_108 rfl (vp_in_nI (n := 12 * c + k) (by omega) (by decide)) rfl (12 * c + k) (nI_clamp (n := 12 * c + k) (by omega)) (fun M hS => ?_)
        refine jj_iinc 0 (lv' := [(2, .int (nI (12 * c + (k + 1)))), (0, .ref (g 60)), (1, .int (nI (c)))]) dd_Mo_begin_109 rfl (nI_1 (12 * c + k)) (Nat.le_of_ble_eq_true rfl) rfl ?_
        refine jj_goto (tgt := 70) dd_Mo_begin_112 (by decide) ?_
        exact ih _ _ _ (by omega) hS hq
  refine jj_aload_n 0 dd_Mo_begin_0 rfl ?_
  refine jj_iconst (v := 0) dd_Mo_begin_1 rfl ?_
  refine jj_pS hS dd_Mo_begin_2 ⟨ff_Mo_93, rfl⟩ rfl (fun _ => rfl) ⟨rfl, rfl⟩ (fun M hS => ?_)
  rw [hF] at hS
  refine jj_aload_n 0 dd_Mo_begin_5 rfl ?_
  refine jj_iload_n 1 dd_Mo_begin_6 rfl ?_
  refine jj_callV (ci := 7) [_] [] 0 0 dd_Mo_begin_7 cs_Mo_131 ci_Mo_131 (hS.1.1 60 _ rfl) ⟨by decide, rfl⟩ rfl (Nat.le_of_ble_eq_true rfl) ⟨(Nat.le_of_ble_eq_true rfl), (Nat.le_of_ble_eq_true rfl)⟩ ⟨(Nat.le_of_ble_eq_true rfl), (Nat.le_of_ble_eq_true rfl)⟩ rfl (ct_Mo_isClient (fun hb => ?_) (fun hb hb2 => ?_))
  · skip
    exact absurd hb (nc_ (n := 3) (by decide) (by omega) (by decide))
  · skip
    refine jj_if_ne (tgt := 19) dd_Mo_begin_10 (by decide) (fun _ => ?_) (fun h => absurd h (by decide))
    refine jj_aload_n 0 dd_Mo_begin_19 rfl ?_
    refine jj_rS (n := 83) hS dd_Mo_begin_20 ff_Mo_66 rfl (fun _ => rfl) rfl ?_
    refine jj_iload_n 1 dd_Mo_begin_23 rfl ?_
    refine jj_aS hS dd_Mo_begin_24 rfl (vp_in_nI (n := c) (by omega) (by decide)) (c) (nI_clamp (n := c) (by omega)) ?_
    refine jj_if_eq (tgt := 34) dd_Mo_begin_25 (by decide) (fun h25 => ?_) (fun h25 => ?_)
    · skip
      refine jj_aload_n 0 dd_Mo_begin_34 rfl ?_
      refine jj_rS (n := 84) hS dd_Mo_begin_35 ff_Mo_69 rfl (fun _ => rfl) rfl ?_
      refine jj_iload_n 1 dd_Mo_begin_38 rfl ?_
      refine jj_aload_n 0 dd_Mo_begin_39 rfl ?_
      refine jj_callV (ci := 7) [] [_, .ref (g 84)] 0 0 dd_Mo_begin_40 cs_Mo_138 ci_Mo_138 (hS.1.1 60 _ rfl) ⟨by decide, rfl⟩ rfl (Nat.le_of_ble_eq_true rfl) ⟨(Nat.le_of_ble_eq_true rfl), (Nat.le_of_ble_eq_true rfl)⟩ ⟨(Nat.le_of_ble_eq_true rfl), (Nat.le_of_ble_eq_true rfl)⟩ rfl (cs_use (cs_Mo_handOut (fun M hS => ?_)) hS)
      refine jj_asS hS dd_Mo_begin_43 rfl (vp_in_nI (n := c) (by omega) (by decide)) (c) (nI_clamp (n := c) (by omega)) (fun M hS => ?_)
      refine jj_aload_n 0 dd_Mo_begin_44 rfl ?_
      refine jj_rS (n := 83) hS dd_Mo_begin_45 ff_Mo_66 rfl (fun _ => rfl) rfl ?_
      refine jj_iload_n 1 dd_Mo_begin_48 rfl ?_
      refine jj_iconst (v := 1) dd_Mo_begin_49 rfl ?_
      refine jj_asS hS dd_Mo_begin_50 rfl (vp_in_nI (n := c) (by omega) (by decide)) (c) (nI_clamp (n := c) (by omega)) (fun M hS => ?_)
      refine jj_aload_n 0 dd_Mo_begin_51 rfl ?_
      refine jj_rS (n := 85) hS dd_Mo_begin_52 ff_Mo_72 rfl (fun _ => rfl) rfl ?_
      refine jj_iload_n 1 dd_Mo_begin_55 rfl ?_
      refine jj_iconst (v := 0) dd_Mo_begin_56 rfl ?_
      refine jj_asS hS dd_Mo_begin_57 rfl (vp_in_nI (n := c) (by omega) (by decide)) (c) (nI_clamp (n := c) (by omega)) (fun M hS => ?_)
      refine jj_aload_n 0 dd_Mo_begin_58 rfl ?_
      refine jj_rS (n := 86) hS dd_Mo_begin_59 ff_Mo_75 rfl (fun _ => rfl) rfl ?_
      refine jj_iload_n 1 dd_Mo_begin_62 rfl ?_
      refine jj_iconst (v := 0) dd_Mo_begin_63 rfl ?_
      refine jj_zsS hS dd_Mo_begin_64 rfl (vp_in_nI (n := c) (by omega) (by decide)) rfl (c) (nI_clamp (n := c) (by omega)) (fun M hS => ?_)
      refine jj_bipush (v := 12) dd_Mo_begin_65 rfl ?_
      refine jj_iload_n 1 dd_Mo_begin_67 rfl ?_
      refine jj_imul dd_Mo_begin_68 ?_
      refine jj_ti (x' := nI (12 * c)) (pk_mul (12) (c)) ?_
      refine jj_istore_n (lv' := [(2, .int (nI (12 * c))), (0, .ref (g 60)), (1, .int (nI (c)))]) dd_Mo_begin_69 (Nat.le_of_ble_eq_true rfl) rfl ?_
      rw [if_pos h25] at hQ
      exact loop 12 0 _ _ (by omega) hS hQ
    · skip
      refine jj_aload_n 0 dd_Mo_begin_28 rfl ?_
      refine jj_iconst (v := 2) dd_Mo_begin_29 rfl ?_
      refine jj_callV (ci := 7) [_] [] 0 0 dd_Mo_begin_30 cs_Mo_134 ci_Mo_134 (hS.1.1 60 _ rfl) ⟨by decide, rfl⟩ rfl (Nat.le_of_ble_eq_true rfl) ⟨(Nat.le_of_ble_eq_true rfl), (Nat.le_of_ble_eq_true rfl)⟩ ⟨(Nat.le_of_ble_eq_true rfl), (Nat.le_of_ble_eq_true rfl)⟩ rfl (cs_use (cs_Mo_fails (fun M hS => ?_)) hS)
      refine jj_iret dd_Mo_begin_33 rfl rfl ?_
      rw [if_neg h25] at hQ
      exact ⟨_, hS, hQ⟩
set_option maxRecDepth 20000 in
theorem cs_Mo_change {l : Launch} {g : Nat → Nat} {S : ss_} {Q : Option Value → ss_ → Prop} {c i : Nat} {x y : Int32} {F : Nat → Nat → Int32} (hF : uf_ S.1 60 1 0 = F) (hc : c < 4) (hi : i < 12) (hQ : Q none (ch_F F c i x y, S.2)) : cs_ l yy_Mo_change bb_Mo_change 5 none 2 0 0 g [.ref (g 60), .int (nI c), .int (nI i), .int x, .int y] S Q := by
  intro M hS
  refine ct_of (by decide) (Nat.le_of_ble_eq_true rfl) (fun G A => ?_)
  unfold ch_F at hQ
  refine jj_aload_n 0 dd_Mo_change_0 rfl ?_
  refine jj_iconst (v := 0) dd_Mo_change_1 rfl ?_
  refine jj_pS hS dd_Mo_change_2 ⟨ff_Mo_93, rfl⟩ rfl (fun _ => rfl) ⟨rfl, rfl⟩ (fun M hS => ?_)
  rw [hF] at hS
  refine jj_aload_n 0 dd_Mo_change_5 rfl ?_
  refine jj_iload_n 1 dd_Mo_change_6 rfl ?_
  refine jj_callV (ci := 7) [_] [] 0 0 dd_Mo_change_7 cs_Mo_131 ci_Mo_131 (hS.1.1 60 _ rfl) ⟨by decide, rfl⟩ rfl (Nat.le_of_ble_eq_true rfl) ⟨(Nat.le_of_ble_eq_true rfl), (Nat.le_of_ble_eq_true rfl)⟩ ⟨(Nat.le_of_ble_eq_true rfl), (Nat.le_of_ble_eq_true rfl)⟩ rfl (ct_Mo_isClient (fun hb => ?_) (fun hb hb2 => ?_))
  · skip
    exact absurd hb (nc_ (n := 3) (by decide) (by omega) (by decide))
  · skip
    refine jj_if_eq (tgt := 20) dd_Mo_change_10 (by decide) (fun h => absurd h (by decide)) (fun _ => ?_)
    refine jj_iload_n 2 dd_Mo_change_13 rfl ?_
    refine jj_callS [_] [] 0 0 dd_Mo_change_14 cs_Mo_142 ci_Mo_142 rfl (Nat.le_of_ble_eq_true rfl) ⟨(Nat.le_of_ble_eq_true rfl), (Nat.le_of_ble_eq_true rfl)⟩ ⟨(Nat.le_of_ble_eq_true rfl), (Nat.le_of_ble_eq_true rfl)⟩ rfl (ct_Mo_isCell (fun hb => ?_) (fun hb hb2 => ?_))
    · skip
      exact absurd hb (nc_ (n := 11) (by decide) (by omega) (by decide))
    · skip
      refine jj_if_ne (tgt := 28) dd_Mo_change_17 (by decide) (fun _ => ?_) (fun h => absurd h (by decide))
      refine jj_aload_n 0 dd_Mo_change_28 rfl ?_
      refine jj_rS (n := 83) hS dd_Mo_change_29 ff_Mo_66 rfl (fun _ => rfl) rfl ?_
      refine jj_iload_n 1 dd_Mo_change_32 rfl ?_
      refine jj_aS hS dd_Mo_change_33 rfl (vp_in_nI (n := c) (by omega) (by decide)) (c) (nI_clamp (n := c) (by omega)) ?_
      refine jj_iconst (v := 1) dd_Mo_change_34 rfl ?_
      refine jj_icmp_eq (tgt := 46) dd_Mo_change_35 (by decide) (fun h35 => ?_) (fun h35 => ?_)
      · skip
        refine jj_aload_n 0 dd_Mo_change_46 rfl ?_
        refine jj_rS (n := 87) hS dd_Mo_change_47 ff_Mo_78 rfl (fun _ => rfl) rfl ?_
        refine jj_bipush (v := 12) dd_Mo_change_50 rfl ?_
        refine jj_iload_n 1 dd_Mo_change_52 rfl ?_
        refine jj_imul dd_Mo_change_53 ?_
        refine jj_ti (x' := nI (12 * c)) (pk_mul (12) (c)) ?_
        refine jj_iload_n 2 dd_Mo_change_54 rfl ?_
        refine jj_iadd dd_Mo_change_55 ?_
        refine jj_ti (x' := nI ((12 * c) + (i))) (nI_add (12 * c) (i)) ?_
        refine jj_iload_n 3 dd_Mo_change_56 rfl ?_
        refine jj_asS hS dd_Mo_change_57 rfl (vp_in_nI (n := (12 * c) + (i)) (by omega) (by decide)) ((12 * c) + (i)) (nI_clamp (n := (12 * c) + (i)) (by omega)) (fun M hS => ?_)
        refine jj_aload_n 0 dd_Mo_change_58 rfl ?_
        refine jj_rS (n := 88) hS dd_Mo_change_59 ff_Mo_81 rfl (fun _ => rfl) rfl ?_
        refine jj_bipush (v := 12) dd_Mo_change_62 rfl ?_
        refine jj_iload_n 1 dd_Mo_change_64 rfl ?_
        refine jj_imul dd_Mo_change_65 ?_
        refine jj_ti (x' := nI (12 * c)) (pk_mul (12) (c)) ?_
        refine jj_iload_n 2 dd_Mo_change_66 rfl ?_
        refine jj_iadd dd_Mo_change_67 ?_
        refine jj_ti (x' := nI ((12 * c) + (i))) (nI_add (12 * c) (i)) ?_
        refine jj_iload 4 dd_Mo_change_68 rfl ?_
        refine jj_asS hS dd_Mo_change_70 rfl (vp_in_nI (n := (12 * c) + (i)) (by omega) (by decide)) ((12 * c) + (i)) (nI_clamp (n := (12 * c) + (i)) (by omega)) (fun M hS => ?_)
        refine jj_vret dd_Mo_change_71 rfl ?_
        rw [if_pos h35] at hQ
        exact ⟨_, hS, hQ⟩
      · skip
        refine jj_aload_n 0 dd_Mo_change_38 rfl ?_
        refine jj_iconst (v := 2) dd_Mo_change_39 rfl ?_
        refine jj_pS hS dd_Mo_change_40 ⟨ff_Mo_93, rfl⟩ rfl (fun _ => rfl) ⟨rfl, rfl⟩ (fun M hS => ?_)
        refine jj_goto (tgt := 71) dd_Mo_change_43 (by decide) ?_
        refine jj_vret dd_Mo_change_71 rfl ?_
        rw [if_neg h35] at hQ
        exact ⟨_, hS, hQ⟩
set_option maxRecDepth 20000 in
theorem cs_Mo_change0 {l : Launch} {g : Nat → Nat} {S : ss_} {Q : Option Value → ss_ → Prop} {u v x y : Int32} {F : Nat → Nat → Int32} (hF : uf_ S.1 60 1 0 = F) (hx : (u < 0 ∨ 3 < u) ∨ (v < 0 ∨ 11 < v)) (hQ : Q none (uf_ F 60 1 1, S.2)) : cs_ l yy_Mo_change bb_Mo_change 5 none 2 0 0 g [.ref (g 60), .int u, .int v, .int x, .int y] S Q := by
  intro M hS
  refine ct_of (by decide) (Nat.le_of_ble_eq_true rfl) (fun G A => ?_)
  refine jj_aload_n 0 dd_Mo_change_0 rfl ?_
  refine jj_iconst (v := 0) dd_Mo_change_1 rfl ?_
  refine jj_pS hS dd_Mo_change_2 ⟨ff_Mo_93, rfl⟩ rfl (fun _ => rfl) ⟨rfl, rfl⟩ (fun M hS => ?_)
  rw [hF] at hS
  refine jj_aload_n 0 dd_Mo_change_5 rfl ?_
  refine jj_iload_n 1 dd_Mo_change_6 rfl ?_
  refine jj_callV (ci := 7) [_] [] 0 0 dd_Mo_change_7 cs_Mo_131 ci_Mo_131 (hS.1.1 60 _ rfl) ⟨by decide, rfl⟩ rfl (Nat.le_of_ble_eq_true rfl) ⟨(Nat.le_of_ble_eq_true rfl), (Nat.le_of_ble_eq_true rfl)⟩ ⟨(Nat.le_of_ble_eq_true rfl), (Nat.le_of_ble_eq_true rfl)⟩ rfl (ct_Mo_isClient (fun hb => ?_) (fun hb hb2 => ?_))
  · skip
    refine jj_if_eq (tgt := 20) dd_Mo_change_10 (by decide) (fun _ => ?_) (fun h => absurd h (by decide))
    refine jj_aload_n 0 dd_Mo_change_20 rfl ?_
    refine jj_iconst (v := 1) dd_Mo_change_21 rfl ?_
    refine jj_pS hS dd_Mo_change_22 ⟨ff_Mo_93, rfl⟩ rfl (fun _ => rfl) ⟨rfl, rfl⟩ (fun M hS => ?_)
    refine jj_goto (tgt := 71) dd_Mo_change_25 (by decide) ?_
    refine jj_vret dd_Mo_change_71 rfl ?_
    exact ⟨_, hS, hQ⟩
  · skip
    have hv := hx.resolve_left (fun h => h.elim hb hb2)
    refine jj_if_eq (tgt := 20) dd_Mo_change_10 (by decide) (fun h => absurd h (by decide)) (fun _ => ?_)
    refine jj_iload_n 2 dd_Mo_change_13 rfl ?_
    refine jj_callS [_] [] 0 0 dd_Mo_change_14 cs_Mo_142 ci_Mo_142 rfl (Nat.le_of_ble_eq_true rfl) ⟨(Nat.le_of_ble_eq_true rfl), (Nat.le_of_ble_eq_true rfl)⟩ ⟨(Nat.le_of_ble_eq_true rfl), (Nat.le_of_ble_eq_true rfl)⟩ rfl (ct_Mo_isCell (fun hb => ?_) (fun hb hb2 => ?_))
    · skip
      refine jj_if_ne (tgt := 28) dd_Mo_change_17 (by decide) (fun h => absurd h (by decide)) (fun _ => ?_)
      refine jj_aload_n 0 dd_Mo_change_20 rfl ?_
      refine jj_iconst (v := 1) dd_Mo_change_21 rfl ?_
      refine jj_pS hS dd_Mo_change_22 ⟨ff_Mo_93, rfl⟩ rfl (fun _ => rfl) ⟨rfl, rfl⟩ (fun M hS => ?_)
      refine jj_goto (tgt := 71) dd_Mo_change_25 (by decide) ?_
      refine jj_vret dd_Mo_change_71 rfl ?_
      exact ⟨_, hS, hQ⟩
    · skip
      exact absurd hv (fun h => h.elim hb hb2)
set_option maxRecDepth 20000 in
theorem cs_Mo_set {l : Launch} {g : Nat → Nat} {S : ss_} {Q : Option Value → ss_ → Prop} {c i : Nat} {y : Int32} {F : Nat → Nat → Int32} (hF : uf_ S.1 60 1 0 = F) (hc : c < 4) (hi : i < 12) (hQ : Q none (ch_F F c i 1 y, S.2)) : cs_ l yy_Mo_set bb_Mo_set 4 none 3 0 0 g [.ref (g 60), .int (nI c), .int (nI i), .int y] S Q := by
  intro M hS
  refine ct_of (by decide) (Nat.le_of_ble_eq_true rfl) (fun G A => ?_)
  refine jj_aload_n 0 dd_Mo_set_0 rfl ?_
  refine jj_iload_n 1 dd_Mo_set_1 rfl ?_
  refine jj_iload_n 2 dd_Mo_set_2 rfl ?_
  refine jj_iconst (v := 1) dd_Mo_set_3 rfl ?_
  refine jj_iload_n 3 dd_Mo_set_4 rfl ?_
  refine jj_callV (ci := 7) [_, _, _, _] [] 0 0 dd_Mo_set_5 cs_Mo_151 ci_Mo_151 (hS.1.1 60 _ rfl) ⟨by decide, rfl⟩ rfl (Nat.le_of_ble_eq_true rfl) ⟨(Nat.le_of_ble_eq_true rfl), (Nat.le_of_ble_eq_true rfl)⟩ ⟨(Nat.le_of_ble_eq_true rfl), (Nat.le_of_ble_eq_true rfl)⟩ rfl (cs_use (cs_Mo_change (c := c) (i := i) hF hc hi (fun M hS => ?_)) hS)
  refine jj_vret dd_Mo_set_8 rfl ?_
  exact ⟨_, hS, hQ⟩
set_option maxRecDepth 20000 in
theorem cs_Mo_set0 {l : Launch} {g : Nat → Nat} {S : ss_} {Q : Option Value → ss_ → Prop} {u v y : Int32} {F : Nat → Nat → Int32} (hF : uf_ S.1 60 1 0 = F) (hx : (u < 0 ∨ 3 < u) ∨ (v < 0 ∨ 11 < v)) (hQ : Q none (uf_ F 60 1 1, S.2)) : cs_ l yy_Mo_set bb_Mo_set 4 none 3 0 0 g [.ref (g 60), .int u, .int v, .int y] S Q := by
  intro M hS
  refine ct_of (by decide) (Nat.le_of_ble_eq_true rfl) (fun G A => ?_)
  refine jj_aload_n 0 dd_Mo_set_0 rfl ?_
  refine jj_iload_n 1 dd_Mo_set_1 rfl ?_
  refine jj_iload_n 2 dd_Mo_set_2 rfl ?_
  refine jj_iconst (v := 1) dd_Mo_set_3 rfl ?_
  refine jj_iload_n 3 dd_Mo_set_4 rfl ?_
  refine jj_callV (ci := 7) [_, _, _, _] [] 0 0 dd_Mo_set_5 cs_Mo_151 ci_Mo_151 (hS.1.1 60 _ rfl) ⟨by decide, rfl⟩ rfl (Nat.le_of_ble_eq_true rfl) ⟨(Nat.le_of_ble_eq_true rfl), (Nat.le_of_ble_eq_true rfl)⟩ ⟨(Nat.le_of_ble_eq_true rfl), (Nat.le_of_ble_eq_true rfl)⟩ rfl (cs_use (cs_Mo_change0 hF hx (fun M hS => ?_)) hS)
  refine jj_vret dd_Mo_set_8 rfl ?_
  exact ⟨_, hS, hQ⟩
set_option maxRecDepth 20000 in
theorem cs_Mo_erase {l : Launch} {g : Nat → Nat} {S : ss_} {Q : Option Value → ss_ → Prop} {c i : Nat} {y : Int32} {F : Nat → Nat → Int32} (hF : uf_ S.1 60 1 0 = F) (hc : c < 4) (hi : i < 12) (hQ : Q none (ch_F F c i 2 0, S.2)) : cs_ l yy_Mo_erase bb_Mo_erase 3 none 3 0 0 g [.ref (g 60), .int (nI c), .int (nI i)] S Q := by
  intro M hS
  refine ct_of (by decide) (Nat.le_of_ble_eq_true rfl) (fun G A => ?_)
  refine jj_aload_n 0 dd_Mo_erase_0 rfl ?_
  refine jj_iload_n 1 dd_Mo_erase_1 rfl ?_
  refine jj_iload_n 2 dd_Mo_erase_2 rfl ?_
  refine jj_iconst (v := 2) dd_Mo_erase_3 rfl ?_
  refine jj_iconst (v := 0) dd_Mo_erase_4 rfl ?_
  refine jj_callV (ci := 7) [_, _, _, _] [] 0 0 dd_Mo_erase_5 cs_Mo_151 ci_Mo_151 (hS.1.1 60 _ rfl) ⟨by decide, rfl⟩ rfl (Nat.le_of_ble_eq_true rfl) ⟨(Nat.le_of_ble_eq_true rfl), (Nat.le_of_ble_eq_true rfl)⟩ ⟨(Nat.le_of_ble_eq_true rfl), (Nat.le_of_ble_eq_true rfl)⟩ rfl (cs_use (cs_Mo_change (c := c) (i := i) hF hc hi (fun M hS => ?_)) hS)
  refine jj_vret dd_Mo_erase_8 rfl ?_
  exact ⟨_, hS, hQ⟩
set_option maxRecDepth 20000 in
theorem cs_Mo_erase0 {l : Launch} {g : Nat → Nat} {S : ss_} {Q : Option Value → ss_ → Prop} {u v y : Int32} {F : Nat → Nat → Int32} (hF : uf_ S.1 60 1 0 = F) (hx : (u < 0 ∨ 3 < u) ∨ (v < 0 ∨ 11 < v)) (hQ : Q none (uf_ F 60 1 1, S.2)) : cs_ l yy_Mo_erase bb_Mo_erase 3 none 3 0 0 g [.ref (g 60), .int u, .int v] S Q := by
  intro M hS
  refine ct_of (by decide) (Nat.le_of_ble_eq_true rfl) (fun G A => ?_)
  refine jj_aload_n 0 dd_Mo_erase_0 rfl ?_
  refine jj_iload_n 1 dd_Mo_erase_1 rfl ?_
  refine jj_iload_n 2 dd_Mo_erase_2 rfl ?_
  refine jj_iconst (v := 2) dd_Mo_erase_3 rfl ?_
  refine jj_iconst (v := 0) dd_Mo_erase_4 rfl ?_
  refine jj_callV (ci := 7) [_, _, _, _] [] 0 0 dd_Mo_erase_5 cs_Mo_151 ci_Mo_151 (hS.1.1 60 _ rfl) ⟨by decide, rfl⟩ rfl (Nat.le_of_ble_eq_true rfl) ⟨(Nat.le_of_ble_eq_true rfl), (Nat.le_of_ble_eq_true rfl)⟩ ⟨(Nat.le_of_ble_eq_true rfl), (Nat.le_of_ble_eq_true rfl)⟩ rfl (cs_use (cs_Mo_change0 hF hx (fun M hS => ?_)) hS)
  refine jj_vret dd_Mo_erase_8 rfl ?_
  exact ⟨_, hS, hQ⟩
theorem la_gx (F : Nat → Nat → Int32) (c x : Int32) : ∀ n k z, k + n ≤ 1540 → ix_ z 1540 → ix_ (la_go F c x n k z) 1540 := by
  intro n
  induction n with
  | zero => intro k z _ h; exact h
  | succ n ih =>
    intro k z hk h
    unfold la_go
    refine ih (k + 1) _ (by omega) ?_
    split
    · exact Or.inr (vp_in_nI (by omega) (by decide))
    · exact h
theorem la_ix (F : Nat → Nat → Int32) (c x : Int32) (h : rec_ F ≤ 1540) : ix_ (la_ F c x) 1540 := la_gx F c x (rec_ F) 0 (-1) (by omega) (Or.inl (by decide))
set_option maxRecDepth 20000 in
theorem cs_Mo_get {l : Launch} {g : Nat → Nat} {S : ss_} {Q : Option Value → ss_ → Prop} {c i : Nat} {F : Nat → Nat → Int32} (hF : uf_ S.1 60 1 0 = F) (hc : c < 4) (hi : i < 12) (hok : ok_ F) (hr : F 60 11 = nI (rec_ F)) (hr2 : rec_ F < 1538) (hQ : ge_ F c i (fun r F => Q (some (.int r)) (F, S.2))) : cs_ l yy_Mo_get bb_Mo_get 5 (some .int) 3 0 0 g [.ref (g 60), .int (nI c), .int (nI i)] S Q := by
  intro M hS
  refine ct_of (by decide) (Nat.le_of_ble_eq_true rfl) (fun G A => ?_)
  unfold ge_ gl_ at hQ
  refine jj_aload_n 0 dd_Mo_get_0 rfl ?_
  refine jj_iconst (v := 0) dd_Mo_get_1 rfl ?_
  refine jj_pS hS dd_Mo_get_2 ⟨ff_Mo_93, rfl⟩ rfl (fun _ => rfl) ⟨rfl, rfl⟩ (fun M hS => ?_)
  rw [hF] at hS
  refine jj_aload_n 0 dd_Mo_get_5 rfl ?_
  refine jj_iload_n 1 dd_Mo_get_6 rfl ?_
  refine jj_callV (ci := 7) [_] [] 0 0 dd_Mo_get_7 cs_Mo_131 ci_Mo_131 (hS.1.1 60 _ rfl) ⟨by decide, rfl⟩ rfl (Nat.le_of_ble_eq_true rfl) ⟨(Nat.le_of_ble_eq_true rfl), (Nat.le_of_ble_eq_true rfl)⟩ ⟨(Nat.le_of_ble_eq_true rfl), (Nat.le_of_ble_eq_true rfl)⟩ rfl (ct_Mo_isClient (fun hb => ?_) (fun hb hb2 => ?_))
  · skip
    exact absurd hb (nc_ (n := 3) (by decide) (by omega) (by decide))
  · skip
    refine jj_if_eq (tgt := 20) dd_Mo_get_10 (by decide) (fun h => absurd h (by decide)) (fun _ => ?_)
    refine jj_iload_n 2 dd_Mo_get_13 rfl ?_
    refine jj_callS [_] [] 0 0 dd_Mo_get_14 cs_Mo_142 ci_Mo_142 rfl (Nat.le_of_ble_eq_true rfl) ⟨(Nat.le_of_ble_eq_true rfl), (Nat.le_of_ble_eq_true rfl)⟩ ⟨(Nat.le_of_ble_eq_true rfl), (Nat.le_of_ble_eq_true rfl)⟩ rfl (ct_Mo_isCell (fun hb => ?_) (fun hb hb2 => ?_))
    · skip
      exact absurd hb (nc_ (n := 11) (by decide) (by omega) (by decide))
    · skip
      refine jj_if_ne (tgt := 26) dd_Mo_get_17 (by decide) (fun _ => ?_) (fun h => absurd h (by decide))
      refine jj_aload_n 0 dd_Mo_get_26 rfl ?_
      refine jj_rS (n := 83) hS dd_Mo_get_27 ff_Mo_66 rfl (fun _ => rfl) rfl ?_
      refine jj_iload_n 1 dd_Mo_get_30 rfl ?_
      refine jj_aS hS dd_Mo_get_31 rfl (vp_in_nI (n := c) (by omega) (by decide)) (c) (nI_clamp (n := c) (by omega)) ?_
      refine jj_iconst (v := 1) dd_Mo_get_32 rfl ?_
      refine jj_icmp_eq (tgt := 42) dd_Mo_get_33 (by decide) (fun h33 => ?_) (fun h33 => ?_)
      · skip
        refine jj_aload_n 0 dd_Mo_get_42 rfl ?_
        refine jj_rS (n := 87) hS dd_Mo_get_43 ff_Mo_78 rfl (fun _ => rfl) rfl ?_
        refine jj_bipush (v := 12) dd_Mo_get_46 rfl ?_
        refine jj_iload_n 1 dd_Mo_get_48 rfl ?_
        refine jj_imul dd_Mo_get_49 ?_
        refine jj_ti (x' := nI (12 * c)) (pk_mul (12) (c)) ?_
        refine jj_iload_n 2 dd_Mo_get_50 rfl ?_
        refine jj_iadd dd_Mo_get_51 ?_
        refine jj_ti (x' := nI ((12 * c) + (i))) (nI_add (12 * c) (i)) ?_
        refine jj_aS hS dd_Mo_get_52 rfl (vp_in_nI (n := (12 * c) + (i)) (by omega) (by decide)) ((12 * c) + (i)) (nI_clamp (n := (12 * c) + (i)) (by omega)) ?_
        refine jj_istore_n (lv' := [(3, .int _), (0, .ref (g 60)), (1, .int (nI (c))), (2, .int (nI (i)))]) dd_Mo_get_53 (Nat.le_of_ble_eq_true rfl) rfl ?_
        refine jj_iload_n 0 dd_Mo_get_54 rfl ?_
        refine jj_if_le (tgt := 83) dd_Mo_get_55 (by decide) (fun h55 => ?_) (fun h55 => ?_)
        · skip
          refine jj_aload_n 1 dd_Mo_get_83 rfl ?_
          refine jj_rS (n := 77) hS dd_Mo_get_84 ff_Mo_47 rfl (fun _ => rfl) rfl ?_
          refine jj_iload_n 3 dd_Mo_get_87 rfl ?_
          refine jj_iconst (v := 4) dd_Mo_get_88 rfl ?_
          refine jj_idiv dd_Mo_get_89 (by decide) ?_
          refine jj_ti (x' := nI ((i) / 4)) (pk_div (a := i) (d := 4) (by omega) (by decide) (by decide)) ?_
          refine jj_zS hS dd_Mo_get_90 rfl (vp_in_nI (n := (i) / 4) (by omega) (by decide)) ((i) / 4) (nI_clamp (n := (i) / 4) (by omega)) ?_
          refine jj_if_eq (tgt := 100) dd_Mo_get_91 (by decide) (fun h91 => ?_) (fun h91 => ?_)
          · skip
            refine jj_aload_n 1 dd_Mo_get_100 rfl ?_
            refine jj_rS (n := 78) hS dd_Mo_get_101 ff_Mo_51 rfl (fun _ => rfl) rfl ?_
            refine jj_iload_n 3 dd_Mo_get_104 rfl ?_
            refine jj_iconst (v := 4) dd_Mo_get_105 rfl ?_
            refine jj_idiv dd_Mo_get_106 (by decide) ?_
            refine jj_ti (x' := nI ((i) / 4)) (pk_div (a := i) (d := 4) (by omega) (by decide) (by decide)) ?_
            refine jj_aS hS dd_Mo_get_107 rfl (vp_in_nI (n := (i) / 4) (by omega) (by decide)) ((i) / 4) (nI_clamp (n := (i) / 4) (by omega)) ?_
            refine jj_aload_n 1 dd_Mo_get_108 rfl ?_
            refine jj_rS (n := 84) hS dd_Mo_get_109 ff_Mo_69 rfl (fun _ => rfl) rfl ?_
            refine jj_iload_n 2 dd_Mo_get_112 rfl ?_
            refine jj_aS hS dd_Mo_get_113 rfl (vp_in_nI (n := c) (by omega) (by decide)) (c) (nI_clamp (n := c) (by omega)) ?_
            refine jj_icmp_le (tgt := 123) dd_Mo_get_114 (by decide) (fun h114 => ?_) (fun h114 => ?_)
            · skip
              refine jj_aload_n 1 dd_Mo_get_123 rfl ?_
              refine jj_rS (n := 65) hS dd_Mo_get_124 ff_Mo_13 rfl (fun _ => rfl) rfl ?_
              refine jj_iload_n 3 dd_Mo_get_127 rfl ?_
              refine jj_aS hS dd_Mo_get_128 rfl (vp_in_nI (n := i) (by omega) (by decide)) (i) (nI_clamp (n := i) (by omega)) ?_
              refine jj_if_le (tgt := 171) dd_Mo_get_129 (by decide) (fun h129 => ?_) (fun h129 => ?_)
              · skip
                refine jj_aload_n 1 dd_Mo_get_171 rfl ?_
                refine jj_iload_n 3 dd_Mo_get_172 rfl ?_
                refine jj_aload_n 1 dd_Mo_get_173 rfl ?_
                refine jj_rS (n := 84) hS dd_Mo_get_174 ff_Mo_69 rfl (fun _ => rfl) rfl ?_
                refine jj_iload_n 2 dd_Mo_get_177 rfl ?_
                refine jj_aS hS dd_Mo_get_178 rfl (vp_in_nI (n := c) (by omega) (by decide)) (c) (nI_clamp (n := c) (by omega)) ?_
                refine jj_callV (ci := 7) [_, _] [] 0 0 dd_Mo_get_179 cs_Mo_148 ci_Mo_148 (hS.1.1 60 _ rfl) ⟨by decide, rfl⟩ rfl (Nat.le_of_ble_eq_true rfl) ⟨(Nat.le_of_ble_eq_true rfl), (Nat.le_of_ble_eq_true rfl)⟩ ⟨(Nat.le_of_ble_eq_true rfl), (Nat.le_of_ble_eq_true rfl)⟩ rfl (cs_use (cs_Mo_latest (by first | exact hr | exact hr3) (by first | (show rec_ F ≤ 1540; omega) | (show rec_ F1 ≤ 1540; omega)) (fun M hS => ?_)) hS)
                refine jj_istore (lv' := [(4, .int _), (3, .int _), (0, .ref (g 60)), (1, .int (nI (c))), (2, .int (nI (i)))]) dd_Mo_get_182 (Nat.le_of_ble_eq_true rfl) rfl ?_
                refine jj_iload 0 dd_Mo_get_184 rfl ?_
                refine jj_if_lt (tgt := 200) dd_Mo_get_186 (by decide) (fun h186 => ?_) (fun h186 => ?_)
                · skip
                  refine jj_aload_n 2 dd_Mo_get_200 rfl ?_
                  refine jj_iconst (v := 3) dd_Mo_get_201 rfl ?_
                  refine jj_callV (ci := 7) [_] [] 0 0 dd_Mo_get_202 cs_Mo_134 ci_Mo_134 (hS.1.1 60 _ rfl) ⟨by decide, rfl⟩ rfl (Nat.le_of_ble_eq_true rfl) ⟨(Nat.le_of_ble_eq_true rfl), (Nat.le_of_ble_eq_true rfl)⟩ ⟨(Nat.le_of_ble_eq_true rfl), (Nat.le_of_ble_eq_true rfl)⟩ rfl (cs_use (cs_Mo_fails (fun M hS => ?_)) hS)
                  refine jj_goto (tgt := 215) dd_Mo_get_205 (by decide) ?_
                  refine jj_iret dd_Mo_get_215 rfl rfl ?_
                  rw [if_pos h33, if_pos h55, if_pos h91, if_pos h114, if_pos h129, if_pos h186] at hQ
                  exact ⟨_, hS, hQ⟩
                · skip
                  refine jj_aload_n 2 dd_Mo_get_189 rfl ?_
                  refine jj_rS (n := 75) hS dd_Mo_get_190 ff_Mo_41 rfl (fun _ => rfl) rfl ?_
                  refine jj_iload 0 dd_Mo_get_193 rfl ?_
                  refine jj_aS hS dd_Mo_get_195 rfl (ix_in (la_ix _ _ _ (by first | (show rec_ F ≤ 1540; omega) | (show rec_ F1 ≤ 1540; omega))) h186) _ rfl ?_
                  refine jj_iconst (v := 2) dd_Mo_get_196 rfl ?_
                  refine jj_icmp_ne (tgt := 208) dd_Mo_get_197 (by decide) (fun h197 => ?_) (fun h197 => ?_)
                  · skip
                    refine jj_aload_n 2 dd_Mo_get_208 rfl ?_
                    refine jj_rS (n := 76) hS dd_Mo_get_209 ff_Mo_44 rfl (fun _ => rfl) rfl ?_
                    refine jj_iload 0 dd_Mo_get_212 rfl ?_
                    refine jj_aS hS dd_Mo_get_214 rfl (ix_in (la_ix _ _ _ (by first | (show rec_ F ≤ 1540; omega) | (show rec_ F1 ≤ 1540; omega))) h186) _ rfl ?_
                    refine jj_iret dd_Mo_get_215 rfl rfl ?_
                    rw [if_pos h33, if_pos h55, if_pos h91, if_pos h114, if_pos h129, if_neg h186, if_neg h197] at hQ
                    exact ⟨_, hS, hQ⟩
                  · skip
                    refine jj_aload_n 2 dd_Mo_get_200 rfl ?_
                    refine jj_iconst (v := 3) dd_Mo_get_201 rfl ?_
                    refine jj_callV (ci := 7) [_] [] 0 0 dd_Mo_get_202 cs_Mo_134 ci_Mo_134 (hS.1.1 60 _ rfl) ⟨by decide, rfl⟩ rfl (Nat.le_of_ble_eq_true rfl) ⟨(Nat.le_of_ble_eq_true rfl), (Nat.le_of_ble_eq_true rfl)⟩ ⟨(Nat.le_of_ble_eq_true rfl), (Nat.le_of_ble_eq_true rfl)⟩ rfl (cs_use (cs_Mo_fails (fun M hS => ?_)) hS)
                    refine jj_goto (tgt := 215) dd_Mo_get_205 (by decide) ?_
                    refine jj_iret dd_Mo_get_215 rfl rfl ?_
                    rw [if_pos h33, if_pos h55, if_pos h91, if_pos h114, if_pos h129, if_neg h186, if_pos h197] at hQ
                    exact ⟨_, hS, hQ⟩
              · skip
                refine jj_aload_n 1 dd_Mo_get_132 rfl ?_
                refine jj_rS (n := 65) hS dd_Mo_get_133 ff_Mo_13 rfl (fun _ => rfl) rfl ?_
                refine jj_iload_n 3 dd_Mo_get_136 rfl ?_
                refine jj_aS hS dd_Mo_get_137 rfl (vp_in_nI (n := i) (by omega) (by decide)) (i) (nI_clamp (n := i) (by omega)) ?_
                refine jj_aload_n 1 dd_Mo_get_138 rfl ?_
                refine jj_rS (n := 84) hS dd_Mo_get_139 ff_Mo_69 rfl (fun _ => rfl) rfl ?_
                refine jj_iload_n 2 dd_Mo_get_142 rfl ?_
                refine jj_aS hS dd_Mo_get_143 rfl (vp_in_nI (n := c) (by omega) (by decide)) (c) (nI_clamp (n := c) (by omega)) ?_
                refine jj_icmp_ge (tgt := 171) dd_Mo_get_144 (by decide) (fun h144 => ?_) (fun h144 => ?_)
                · skip
                  refine jj_aload_n 1 dd_Mo_get_171 rfl ?_
                  refine jj_iload_n 3 dd_Mo_get_172 rfl ?_
                  refine jj_aload_n 1 dd_Mo_get_173 rfl ?_
                  refine jj_rS (n := 84) hS dd_Mo_get_174 ff_Mo_69 rfl (fun _ => rfl) rfl ?_
                  refine jj_iload_n 2 dd_Mo_get_177 rfl ?_
                  refine jj_aS hS dd_Mo_get_178 rfl (vp_in_nI (n := c) (by omega) (by decide)) (c) (nI_clamp (n := c) (by omega)) ?_
                  refine jj_callV (ci := 7) [_, _] [] 0 0 dd_Mo_get_179 cs_Mo_148 ci_Mo_148 (hS.1.1 60 _ rfl) ⟨by decide, rfl⟩ rfl (Nat.le_of_ble_eq_true rfl) ⟨(Nat.le_of_ble_eq_true rfl), (Nat.le_of_ble_eq_true rfl)⟩ ⟨(Nat.le_of_ble_eq_true rfl), (Nat.le_of_ble_eq_true rfl)⟩ rfl (cs_use (cs_Mo_latest (by first | exact hr | exact hr3) (by first | (show rec_ F ≤ 1540; omega) | (show rec_ F1 ≤ 1540; omega)) (fun M hS => ?_)) hS)
                  refine jj_istore (lv' := [(4, .int _), (3, .int _), (0, .ref (g 60)), (1, .int (nI (c))), (2, .int (nI (i)))]) dd_Mo_get_182 (Nat.le_of_ble_eq_true rfl) rfl ?_
                  refine jj_iload 0 dd_Mo_get_184 rfl ?_
                  refine jj_if_lt (tgt := 200) dd_Mo_get_186 (by decide) (fun h186 => ?_) (fun h186 => ?_)
                  · skip
                    refine jj_aload_n 2 dd_Mo_get_200 rfl ?_
                    refine jj_iconst (v := 3) dd_Mo_get_201 rfl ?_
                    refine jj_callV (ci := 7) [_] [] 0 0 dd_Mo_get_202 cs_Mo_134 ci_Mo_134 (hS.1.1 60 _ rfl) ⟨by decide, rfl⟩ rfl (Nat.le_of_ble_eq_true rfl) ⟨(Nat.le_of_ble_eq_true rfl), (Nat.le_of_ble_eq_true rfl)⟩ ⟨(Nat.le_of_ble_eq_true rfl), (Nat.le_of_ble_eq_true rfl)⟩ rfl (cs_use (cs_Mo_fails (fun M hS => ?_)) hS)
                    refine jj_goto (tgt := 215) dd_Mo_get_205 (by decide) ?_
                    refine jj_iret dd_Mo_get_215 rfl rfl ?_
                    rw [if_pos h33, if_pos h55, if_pos h91, if_pos h114, if_neg h129, if_pos h144, if_pos h186] at hQ
                    exact ⟨_, hS, hQ⟩
                  · skip
                    refine jj_aload_n 2 dd_Mo_get_189 rfl ?_
                    refine jj_rS (n := 75) hS dd_Mo_get_190 ff_Mo_41 rfl (fun _ => rfl) rfl ?_
                    refine jj_iload 0 dd_Mo_get_193 rfl ?_
                    refine jj_aS hS dd_Mo_get_195 rfl (ix_in (la_ix _ _ _ (by first | (show rec_ F ≤ 1540; omega) | (show rec_ F1 ≤ 1540; omega))) h186) _ rfl ?_
                    refine jj_iconst (v := 2) dd_Mo_get_196 rfl ?_
                    refine jj_icmp_ne (tgt := 208) dd_Mo_get_197 (by decide) (fun h197 => ?_) (fun h197 => ?_)
                    · skip
                      refine jj_aload_n 2 dd_Mo_get_208 rfl ?_
                      refine jj_rS (n := 76) hS dd_Mo_get_209 ff_Mo_44 rfl (fun _ => rfl) rfl ?_
                      refine jj_iload 0 dd_Mo_get_212 rfl ?_
                      refine jj_aS hS dd_Mo_get_214 rfl (ix_in (la_ix _ _ _ (by first | (show rec_ F ≤ 1540; omega) | (show rec_ F1 ≤ 1540; omega))) h186) _ rfl ?_
                      refine jj_iret dd_Mo_get_215 rfl rfl ?_
                      rw [if_pos h33, if_pos h55, if_pos h91, if_pos h114, if_neg h129, if_pos h144, if_neg h186, if_neg h197] at hQ
                      exact ⟨_, hS, hQ⟩
                    · skip
                      refine jj_aload_n 2 dd_Mo_get_200 rfl ?_
                      refine jj_iconst (v := 3) dd_Mo_get_201 rfl ?_
                      refine jj_callV (ci := 7) [_] [] 0 0 dd_Mo_get_202 cs_Mo_134 ci_Mo_134 (hS.1.1 60 _ rfl) ⟨by decide, rfl⟩ rfl (Nat.le_of_ble_eq_true rfl) ⟨(Nat.le_of_ble_eq_true rfl), (Nat.le_of_ble_eq_true rfl)⟩ ⟨(Nat.le_of_ble_eq_true rfl), (Nat.le_of_ble_eq_true rfl)⟩ rfl (cs_use (cs_Mo_fails (fun M hS => ?_)) hS)
                      refine jj_goto (tgt := 215) dd_Mo_get_205 (by decide) ?_
                      refine jj_iret dd_Mo_get_215 rfl rfl ?_
                      rw [if_pos h33, if_pos h55, if_pos h91, if_pos h114, if_neg h129, if_pos h144, if_neg h186, if_pos h197] at hQ
                      exact ⟨_, hS, hQ⟩
                · skip
                  refine jj_aload_n 1 dd_Mo_get_147 rfl ?_
                  refine jj_iload_n 3 dd_Mo_get_148 rfl ?_
                  rw [if_pos h33, if_pos h55, if_pos h91, if_pos h114, if_neg h129, if_neg h144] at hQ
                  refine jj_callV (ci := 7) [_] [] 0 0 dd_Mo_get_149 cs_Mo_145 ci_Mo_145 (hS.1.1 60 _ rfl) ⟨by decide, rfl⟩ rfl (Nat.le_of_ble_eq_true rfl) ⟨(Nat.le_of_ble_eq_true rfl), (Nat.le_of_ble_eq_true rfl)⟩ ⟨(Nat.le_of_ble_eq_true rfl), (Nat.le_of_ble_eq_true rfl)⟩ rfl (cs_use (cs_Mo_clearing hi (hok.1 i hi).1 (hok.1 i hi).2 (hok.2 _ (hok.1 i hi).2).1 (hok.2 _ (hok.1 i hi).2).2 hr hr2 (cl_mono (fun r F1 hh => ?_) (cl_str hr hr2 hQ))) hS)
                  intro M hS
                  obtain ⟨hQ, hr3, hr4⟩ := hh
                  have hr4 : rec_ F1 ≤ rec_ F + 2 := hr4
                  refine jj_istore (lv' := [(4, .int _), (3, .int _), (0, .ref (g 60)), (1, .int (nI (c))), (2, .int (nI (i)))]) dd_Mo_get_152 (Nat.le_of_ble_eq_true rfl) rfl ?_
                  refine jj_iload 0 dd_Mo_get_154 rfl ?_
                  refine jj_iconst (v := 1) dd_Mo_get_156 rfl ?_
                  refine jj_icmp_eq (tgt := 165) dd_Mo_get_157 (by decide) (fun h157 => ?_) (fun h157 => ?_)
                  · skip
                    refine jj_aload_n 2 dd_Mo_get_165 rfl ?_
                    refine jj_iconst (v := 2) dd_Mo_get_166 rfl ?_
                    refine jj_callV (ci := 7) [_] [] 0 0 dd_Mo_get_167 cs_Mo_134 ci_Mo_134 (hS.1.1 60 _ rfl) ⟨by decide, rfl⟩ rfl (Nat.le_of_ble_eq_true rfl) ⟨(Nat.le_of_ble_eq_true rfl), (Nat.le_of_ble_eq_true rfl)⟩ ⟨(Nat.le_of_ble_eq_true rfl), (Nat.le_of_ble_eq_true rfl)⟩ rfl (cs_use (cs_Mo_fails (fun M hS => ?_)) hS)
                    refine jj_iret dd_Mo_get_170 rfl rfl ?_
                    rw [if_pos h157] at hQ
                    exact ⟨_, hS, hQ⟩
                  · skip
                    refine jj_iload 0 dd_Mo_get_160 rfl ?_
                    refine jj_if_ne (tgt := 171) dd_Mo_get_162 (by decide) (fun h162 => ?_) (fun h162 => ?_)
                    · skip
                      refine jj_aload_n 2 dd_Mo_get_171 rfl ?_
                      refine jj_iload_n 4 dd_Mo_get_172 rfl ?_
                      refine jj_aload_n 2 dd_Mo_get_173 rfl ?_
                      refine jj_rS (n := 84) hS dd_Mo_get_174 ff_Mo_69 rfl (fun _ => rfl) rfl ?_
                      refine jj_iload_n 3 dd_Mo_get_177 rfl ?_
                      refine jj_aS hS dd_Mo_get_178 rfl (vp_in_nI (n := c) (by omega) (by decide)) (c) (nI_clamp (n := c) (by omega)) ?_
                      refine jj_callV (ci := 7) [_, _] [] 0 0 dd_Mo_get_179 cs_Mo_148 ci_Mo_148 (hS.1.1 60 _ rfl) ⟨by decide, rfl⟩ rfl (Nat.le_of_ble_eq_true rfl) ⟨(Nat.le_of_ble_eq_true rfl), (Nat.le_of_ble_eq_true rfl)⟩ ⟨(Nat.le_of_ble_eq_true rfl), (Nat.le_of_ble_eq_true rfl)⟩ rfl (cs_use (cs_Mo_latest (by first | exact hr | exact hr3) (by first | (show rec_ F ≤ 1540; omega) | (show rec_ F1 ≤ 1540; omega)) (fun M hS => ?_)) hS)
                      refine jj_istore (lv' := [(4, .int _), (3, .int _), (0, .ref (g 60)), (1, .int (nI (c))), (2, .int (nI (i)))]) dd_Mo_get_182 (Nat.le_of_ble_eq_true rfl) rfl ?_
                      refine jj_iload 0 dd_Mo_get_184 rfl ?_
                      refine jj_if_lt (tgt := 200) dd_Mo_get_186 (by decide) (fun h186 => ?_) (fun h186 => ?_)
                      · skip
                        refine jj_aload_n 2 dd_Mo_get_200 rfl ?_
                        refine jj_iconst (v := 3) dd_Mo_get_201 rfl ?_
                        refine jj_callV (ci := 7) [_] [] 0 0 dd_Mo_get_202 cs_Mo_134 ci_Mo_134 (hS.1.1 60 _ rfl) ⟨by decide, rfl⟩ rfl (Nat.le_of_ble_eq_true rfl) ⟨(Nat.le_of_ble_eq_true rfl), (Nat.le_of_ble_eq_true rfl)⟩ ⟨(Nat.le_of_ble_eq_true rfl), (Nat.le_of_ble_eq_true rfl)⟩ rfl (cs_use (cs_Mo_fails (fun M hS => ?_)) hS)
                        refine jj_goto (tgt := 215) dd_Mo_get_205 (by decide) ?_
                        refine jj_iret dd_Mo_get_215 rfl rfl ?_
                        rw [if_neg h157, if_neg h162, if_pos h186] at hQ
                        exact ⟨_, hS, hQ⟩
                      · skip
                        refine jj_aload_n 2 dd_Mo_get_189 rfl ?_
                        refine jj_rS (n := 75) hS dd_Mo_get_190 ff_Mo_41 rfl (fun _ => rfl) rfl ?_
                        refine jj_iload 0 dd_Mo_get_193 rfl ?_
                        refine jj_aS hS dd_Mo_get_195 rfl (ix_in (la_ix _ _ _ (by first | (show rec_ F ≤ 1540; omega) | (show rec_ F1 ≤ 1540; omega))) h186) _ rfl ?_
                        refine jj_iconst (v := 2) dd_Mo_get_196 rfl ?_
                        refine jj_icmp_ne (tgt := 208) dd_Mo_get_197 (by decide) (fun h197 => ?_) (fun h197 => ?_)
                        · skip
                          refine jj_aload_n 2 dd_Mo_get_208 rfl ?_
                          refine jj_rS (n := 76) hS dd_Mo_get_209 ff_Mo_44 rfl (fun _ => rfl) rfl ?_
                          refine jj_iload 0 dd_Mo_get_212 rfl ?_
                          refine jj_aS hS dd_Mo_get_214 rfl (ix_in (la_ix _ _ _ (by first | (show rec_ F ≤ 1540; omega) | (show rec_ F1 ≤ 1540; omega))) h186) _ rfl ?_
                          refine jj_iret dd_Mo_get_215 rfl rfl ?_
                          rw [if_neg h157, if_neg h162, if_neg h186, if_neg h197] at hQ
                          exact ⟨_, hS, hQ⟩
                        · skip
                          refine jj_aload_n 2 dd_Mo_get_200 rfl ?_
                          refine jj_iconst (v := 3) dd_Mo_get_201 rfl ?_
                          refine jj_callV (ci := 7) [_] [] 0 0 dd_Mo_get_202 cs_Mo_134 ci_Mo_134 (hS.1.1 60 _ rfl) ⟨by decide, rfl⟩ rfl (Nat.le_of_ble_eq_true rfl) ⟨(Nat.le_of_ble_eq_true rfl), (Nat.le_of_ble_eq_true rfl)⟩ ⟨(Nat.le_of_ble_eq_true rfl), (Nat.le_of_ble_eq_true rfl)⟩ rfl (cs_use (cs_Mo_fails (fun M hS => ?_)) hS)
                          refine jj_goto (tgt := 215) dd_Mo_get_205 (by decide) ?_
                          refine jj_iret dd_Mo_get_215 rfl rfl ?_
                          rw [if_neg h157, if_neg h162, if_neg h186, if_pos h197] at hQ
                          exact ⟨_, hS, hQ⟩
                    · skip
                      refine jj_aload_n 2 dd_Mo_get_165 rfl ?_
                      refine jj_iconst (v := 2) dd_Mo_get_166 rfl ?_
                      refine jj_callV (ci := 7) [_] [] 0 0 dd_Mo_get_167 cs_Mo_134 ci_Mo_134 (hS.1.1 60 _ rfl) ⟨by decide, rfl⟩ rfl (Nat.le_of_ble_eq_true rfl) ⟨(Nat.le_of_ble_eq_true rfl), (Nat.le_of_ble_eq_true rfl)⟩ ⟨(Nat.le_of_ble_eq_true rfl), (Nat.le_of_ble_eq_true rfl)⟩ rfl (cs_use (cs_Mo_fails (fun M hS => ?_)) hS)
                      refine jj_iret dd_Mo_get_170 rfl rfl ?_
                      rw [if_neg h157, if_pos h162] at hQ
                      exact ⟨_, hS, hQ⟩
            · skip
              refine jj_aload_n 1 dd_Mo_get_117 rfl ?_
              refine jj_iconst (v := 4) dd_Mo_get_118 rfl ?_
              refine jj_callV (ci := 7) [_] [] 0 0 dd_Mo_get_119 cs_Mo_134 ci_Mo_134 (hS.1.1 60 _ rfl) ⟨by decide, rfl⟩ rfl (Nat.le_of_ble_eq_true rfl) ⟨(Nat.le_of_ble_eq_true rfl), (Nat.le_of_ble_eq_true rfl)⟩ ⟨(Nat.le_of_ble_eq_true rfl), (Nat.le_of_ble_eq_true rfl)⟩ rfl (cs_use (cs_Mo_fails (fun M hS => ?_)) hS)
              refine jj_iret dd_Mo_get_122 rfl rfl ?_
              rw [if_pos h33, if_pos h55, if_pos h91, if_neg h114] at hQ
              exact ⟨_, hS, hQ⟩
          · skip
            refine jj_aload_n 1 dd_Mo_get_94 rfl ?_
            refine jj_iconst (v := 2) dd_Mo_get_95 rfl ?_
            refine jj_callV (ci := 7) [_] [] 0 0 dd_Mo_get_96 cs_Mo_134 ci_Mo_134 (hS.1.1 60 _ rfl) ⟨by decide, rfl⟩ rfl (Nat.le_of_ble_eq_true rfl) ⟨(Nat.le_of_ble_eq_true rfl), (Nat.le_of_ble_eq_true rfl)⟩ ⟨(Nat.le_of_ble_eq_true rfl), (Nat.le_of_ble_eq_true rfl)⟩ rfl (cs_use (cs_Mo_fails (fun M hS => ?_)) hS)
            refine jj_iret dd_Mo_get_99 rfl rfl ?_
            rw [if_pos h33, if_pos h55, if_neg h91] at hQ
            exact ⟨_, hS, hQ⟩
        · skip
          refine jj_iload_n 0 dd_Mo_get_58 rfl ?_
          refine jj_iconst (v := 1) dd_Mo_get_59 rfl ?_
          refine jj_icmp_ne (tgt := 77) dd_Mo_get_60 (by decide) (fun h60 => ?_) (fun h60 => ?_)
          · skip
            refine jj_aload_n 1 dd_Mo_get_77 rfl ?_
            refine jj_iconst (v := 3) dd_Mo_get_78 rfl ?_
            refine jj_callV (ci := 7) [_] [] 0 0 dd_Mo_get_79 cs_Mo_134 ci_Mo_134 (hS.1.1 60 _ rfl) ⟨by decide, rfl⟩ rfl (Nat.le_of_ble_eq_true rfl) ⟨(Nat.le_of_ble_eq_true rfl), (Nat.le_of_ble_eq_true rfl)⟩ ⟨(Nat.le_of_ble_eq_true rfl), (Nat.le_of_ble_eq_true rfl)⟩ rfl (cs_use (cs_Mo_fails (fun M hS => ?_)) hS)
            refine jj_iret dd_Mo_get_82 rfl rfl ?_
            rw [if_pos h33, if_neg h55, if_neg h60] at hQ
            exact ⟨_, hS, hQ⟩
          · skip
            refine jj_aload_n 1 dd_Mo_get_63 rfl ?_
            refine jj_rS (n := 88) hS dd_Mo_get_64 ff_Mo_81 rfl (fun _ => rfl) rfl ?_
            refine jj_bipush (v := 12) dd_Mo_get_67 rfl ?_
            refine jj_iload_n 2 dd_Mo_get_69 rfl ?_
            refine jj_imul dd_Mo_get_70 ?_
            refine jj_ti (x' := nI (12 * c)) (pk_mul (12) (c)) ?_
            refine jj_iload_n 3 dd_Mo_get_71 rfl ?_
            refine jj_iadd dd_Mo_get_72 ?_
            refine jj_ti (x' := nI ((12 * c) + (i))) (nI_add (12 * c) (i)) ?_
            refine jj_aS hS dd_Mo_get_73 rfl (vp_in_nI (n := (12 * c) + (i)) (by omega) (by decide)) ((12 * c) + (i)) (nI_clamp (n := (12 * c) + (i)) (by omega)) ?_
            refine jj_goto (tgt := 82) dd_Mo_get_74 (by decide) ?_
            refine jj_iret dd_Mo_get_82 rfl rfl ?_
            rw [if_pos h33, if_neg h55, if_pos h60] at hQ
            exact ⟨_, hS, hQ⟩
      · skip
        refine jj_aload_n 0 dd_Mo_get_36 rfl ?_
        refine jj_iconst (v := 2) dd_Mo_get_37 rfl ?_
        refine jj_callV (ci := 7) [_] [] 0 0 dd_Mo_get_38 cs_Mo_134 ci_Mo_134 (hS.1.1 60 _ rfl) ⟨by decide, rfl⟩ rfl (Nat.le_of_ble_eq_true rfl) ⟨(Nat.le_of_ble_eq_true rfl), (Nat.le_of_ble_eq_true rfl)⟩ ⟨(Nat.le_of_ble_eq_true rfl), (Nat.le_of_ble_eq_true rfl)⟩ rfl (cs_use (cs_Mo_fails (fun M hS => ?_)) hS)
        refine jj_iret dd_Mo_get_41 rfl rfl ?_
        rw [if_neg h33] at hQ
        exact ⟨_, hS, hQ⟩
set_option maxRecDepth 20000 in
theorem cs_Mo_get0 {l : Launch} {g : Nat → Nat} {S : ss_} {Q : Option Value → ss_ → Prop} {u v : Int32} {F : Nat → Nat → Int32} (hF : uf_ S.1 60 1 0 = F) (hx : (u < 0 ∨ 3 < u) ∨ (v < 0 ∨ 11 < v)) (hQ : Q (some (.int 0)) (uf_ F 60 1 1, S.2)) : cs_ l yy_Mo_get bb_Mo_get 5 (some .int) 3 0 0 g [.ref (g 60), .int u, .int v] S Q := by
  intro M hS
  refine ct_of (by decide) (Nat.le_of_ble_eq_true rfl) (fun G A => ?_)
  refine jj_aload_n 0 dd_Mo_get_0 rfl ?_
  refine jj_iconst (v := 0) dd_Mo_get_1 rfl ?_
  refine jj_pS hS dd_Mo_get_2 ⟨ff_Mo_93, rfl⟩ rfl (fun _ => rfl) ⟨rfl, rfl⟩ (fun M hS => ?_)
  rw [hF] at hS
  refine jj_aload_n 0 dd_Mo_get_5 rfl ?_
  refine jj_iload_n 1 dd_Mo_get_6 rfl ?_
  refine jj_callV (ci := 7) [_] [] 0 0 dd_Mo_get_7 cs_Mo_131 ci_Mo_131 (hS.1.1 60 _ rfl) ⟨by decide, rfl⟩ rfl (Nat.le_of_ble_eq_true rfl) ⟨(Nat.le_of_ble_eq_true rfl), (Nat.le_of_ble_eq_true rfl)⟩ ⟨(Nat.le_of_ble_eq_true rfl), (Nat.le_of_ble_eq_true rfl)⟩ rfl (ct_Mo_isClient (fun hb => ?_) (fun hb hb2 => ?_))
  · skip
    refine jj_if_eq (tgt := 20) dd_Mo_get_10 (by decide) (fun _ => ?_) (fun h => absurd h (by decide))
    refine jj_aload_n 0 dd_Mo_get_20 rfl ?_
    refine jj_iconst (v := 1) dd_Mo_get_21 rfl ?_
    refine jj_callV (ci := 7) [_] [] 0 0 dd_Mo_get_22 cs_Mo_134 ci_Mo_134 (hS.1.1 60 _ rfl) ⟨by decide, rfl⟩ rfl (Nat.le_of_ble_eq_true rfl) ⟨(Nat.le_of_ble_eq_true rfl), (Nat.le_of_ble_eq_true rfl)⟩ ⟨(Nat.le_of_ble_eq_true rfl), (Nat.le_of_ble_eq_true rfl)⟩ rfl (cs_use (cs_Mo_fails (fun M hS => ?_)) hS)
    refine jj_iret dd_Mo_get_25 rfl rfl ?_
    exact ⟨_, hS, hQ⟩
  · skip
    have hv := hx.resolve_left (fun h => h.elim hb hb2)
    refine jj_if_eq (tgt := 20) dd_Mo_get_10 (by decide) (fun h => absurd h (by decide)) (fun _ => ?_)
    refine jj_iload_n 2 dd_Mo_get_13 rfl ?_
    refine jj_callS [_] [] 0 0 dd_Mo_get_14 cs_Mo_142 ci_Mo_142 rfl (Nat.le_of_ble_eq_true rfl) ⟨(Nat.le_of_ble_eq_true rfl), (Nat.le_of_ble_eq_true rfl)⟩ ⟨(Nat.le_of_ble_eq_true rfl), (Nat.le_of_ble_eq_true rfl)⟩ rfl (ct_Mo_isCell (fun hb => ?_) (fun hb hb2 => ?_))
    · skip
      refine jj_if_ne (tgt := 26) dd_Mo_get_17 (by decide) (fun h => absurd h (by decide)) (fun _ => ?_)
      refine jj_aload_n 0 dd_Mo_get_20 rfl ?_
      refine jj_iconst (v := 1) dd_Mo_get_21 rfl ?_
      refine jj_callV (ci := 7) [_] [] 0 0 dd_Mo_get_22 cs_Mo_134 ci_Mo_134 (hS.1.1 60 _ rfl) ⟨by decide, rfl⟩ rfl (Nat.le_of_ble_eq_true rfl) ⟨(Nat.le_of_ble_eq_true rfl), (Nat.le_of_ble_eq_true rfl)⟩ ⟨(Nat.le_of_ble_eq_true rfl), (Nat.le_of_ble_eq_true rfl)⟩ rfl (cs_use (cs_Mo_fails (fun M hS => ?_)) hS)
      refine jj_iret dd_Mo_get_25 rfl rfl ?_
      exact ⟨_, hS, hQ⟩
    · skip
      exact absurd hv (fun h => h.elim hb hb2)
set_option maxRecDepth 20000 in
theorem cs_Mo_kill {l : Launch} {g : Nat → Nat} {S : ss_} {Q : Option Value → ss_ → Prop} {c : Nat} {F : Nat → Nat → Int32} (hF : uf_ S.1 60 1 0 = F) (hc : c < 4) (hQ : ki_ F c (fun r F => Q (some (.int r)) (F, S.2))) : cs_ l yy_Mo_kill bb_Mo_kill 2 (some .boolean) 2 0 0 g [.ref (g 60), .int (nI c)] S Q := by
  intro M hS
  refine ct_of (by decide) (Nat.le_of_ble_eq_true rfl) (fun G A => ?_)
  unfold ki_ at hQ
  refine jj_aload_n 0 dd_Mo_kill_0 rfl ?_
  refine jj_iconst (v := 0) dd_Mo_kill_1 rfl ?_
  refine jj_pS hS dd_Mo_kill_2 ⟨ff_Mo_93, rfl⟩ rfl (fun _ => rfl) ⟨rfl, rfl⟩ (fun M hS => ?_)
  rw [hF] at hS
  refine jj_aload_n 0 dd_Mo_kill_5 rfl ?_
  refine jj_iload_n 1 dd_Mo_kill_6 rfl ?_
  refine jj_callV (ci := 7) [_] [] 0 0 dd_Mo_kill_7 cs_Mo_131 ci_Mo_131 (hS.1.1 60 _ rfl) ⟨by decide, rfl⟩ rfl (Nat.le_of_ble_eq_true rfl) ⟨(Nat.le_of_ble_eq_true rfl), (Nat.le_of_ble_eq_true rfl)⟩ ⟨(Nat.le_of_ble_eq_true rfl), (Nat.le_of_ble_eq_true rfl)⟩ rfl (ct_Mo_isClient (fun hb => ?_) (fun hb hb2 => ?_))
  · skip
    exact absurd hb (nc_ (n := 3) (by decide) (by omega) (by decide))
  · skip
    refine jj_if_eq (tgt := 22) dd_Mo_kill_10 (by decide) (fun h => absurd h (by decide)) (fun _ => ?_)
    refine jj_aload_n 0 dd_Mo_kill_13 rfl ?_
    refine jj_rS (n := 83) hS dd_Mo_kill_14 ff_Mo_66 rfl (fun _ => rfl) rfl ?_
    refine jj_iload_n 1 dd_Mo_kill_17 rfl ?_
    refine jj_aS hS dd_Mo_kill_18 rfl (vp_in_nI (n := c) (by omega) (by decide)) (c) (nI_clamp (n := c) (by omega)) ?_
    refine jj_if_ne (tgt := 24) dd_Mo_kill_19 (by decide) (fun h19 => ?_) (fun h19 => ?_)
    · skip
      refine jj_aload_n 0 dd_Mo_kill_24 rfl ?_
      refine jj_rS (n := 83) hS dd_Mo_kill_25 ff_Mo_66 rfl (fun _ => rfl) rfl ?_
      refine jj_iload_n 1 dd_Mo_kill_28 rfl ?_
      refine jj_iconst (v := 0) dd_Mo_kill_29 rfl ?_
      refine jj_asS hS dd_Mo_kill_30 rfl (vp_in_nI (n := c) (by omega) (by decide)) (c) (nI_clamp (n := c) (by omega)) (fun M hS => ?_)
      refine jj_iconst (v := 1) dd_Mo_kill_31 rfl ?_
      refine jj_iret dd_Mo_kill_32 rfl rfl ?_
      rw [if_neg h19] at hQ
      exact ⟨_, hS, hQ⟩
    · skip
      refine jj_iconst (v := 0) dd_Mo_kill_22 rfl ?_
      refine jj_iret dd_Mo_kill_23 rfl rfl ?_
      rw [if_pos h19] at hQ
      exact ⟨_, hS, hQ⟩
set_option maxRecDepth 20000 in
theorem cs_Mo_kill0 {l : Launch} {g : Nat → Nat} {S : ss_} {Q : Option Value → ss_ → Prop} {x : Int32} {F : Nat → Nat → Int32} (hF : uf_ S.1 60 1 0 = F) (hx : x < 0 ∨ 3 < x) (hQ : Q (some (.int 0)) (F, S.2)) : cs_ l yy_Mo_kill bb_Mo_kill 2 (some .boolean) 2 0 0 g [.ref (g 60), .int x] S Q := by
  intro M hS
  refine ct_of (by decide) (Nat.le_of_ble_eq_true rfl) (fun G A => ?_)
  refine jj_aload_n 0 dd_Mo_kill_0 rfl ?_
  refine jj_iconst (v := 0) dd_Mo_kill_1 rfl ?_
  refine jj_pS hS dd_Mo_kill_2 ⟨ff_Mo_93, rfl⟩ rfl (fun _ => rfl) ⟨rfl, rfl⟩ (fun M hS => ?_)
  rw [hF] at hS
  refine jj_aload_n 0 dd_Mo_kill_5 rfl ?_
  refine jj_iload_n 1 dd_Mo_kill_6 rfl ?_
  refine jj_callV (ci := 7) [_] [] 0 0 dd_Mo_kill_7 cs_Mo_131 ci_Mo_131 (hS.1.1 60 _ rfl) ⟨by decide, rfl⟩ rfl (Nat.le_of_ble_eq_true rfl) ⟨(Nat.le_of_ble_eq_true rfl), (Nat.le_of_ble_eq_true rfl)⟩ ⟨(Nat.le_of_ble_eq_true rfl), (Nat.le_of_ble_eq_true rfl)⟩ rfl (ct_Mo_isClient (fun hb => ?_) (fun hb hb2 => ?_))
  · skip
    refine jj_if_eq (tgt := 22) dd_Mo_kill_10 (by decide) (fun _ => ?_) (fun h => absurd h (by decide))
    refine jj_iconst (v := 0) dd_Mo_kill_22 rfl ?_
    refine jj_iret dd_Mo_kill_23 rfl rfl ?_
    exact ⟨_, hS, hQ⟩
  · skip
    exact absurd hx (fun h => h.elim hb hb2)
set_option maxRecDepth 20000 in
theorem cs_Mo_clear {l : Launch} {g : Nat → Nat} {S : ss_} {Q : Option Value → ss_ → Prop} {i : Nat} {F : Nat → Nat → Int32} (hF : uf_ S.1 60 1 0 = F) (hi : i < 12) (hok : ok_ F) (hr : F 60 11 = nI (rec_ F)) (hr2 : rec_ F < 1538) (hQ : ce_ F i (fun r F => Q (some (.int r)) (F, S.2))) : cs_ l yy_Mo_clear bb_Mo_clear 3 (some .int) 3 0 0 g [.ref (g 60), .int (nI i)] S Q := by
  intro M hS
  refine ct_of (by decide) (Nat.le_of_ble_eq_true rfl) (fun G A => ?_)
  unfold ce_ at hQ
  refine jj_aload_n 0 dd_Mo_clear_0 rfl ?_
  refine jj_iconst (v := 0) dd_Mo_clear_1 rfl ?_
  refine jj_pS hS dd_Mo_clear_2 ⟨ff_Mo_93, rfl⟩ rfl (fun _ => rfl) ⟨rfl, rfl⟩ (fun M hS => ?_)
  rw [hF] at hS
  refine jj_iload_n 1 dd_Mo_clear_5 rfl ?_
  refine jj_callS [_] [] 0 0 dd_Mo_clear_6 cs_Mo_142 ci_Mo_142 rfl (Nat.le_of_ble_eq_true rfl) ⟨(Nat.le_of_ble_eq_true rfl), (Nat.le_of_ble_eq_true rfl)⟩ ⟨(Nat.le_of_ble_eq_true rfl), (Nat.le_of_ble_eq_true rfl)⟩ rfl (ct_Mo_isCell (fun hb => ?_) (fun hb hb2 => ?_))
  · skip
    exact absurd hb (nc_ (n := 11) (by decide) (by omega) (by decide))
  · skip
    refine jj_if_ne (tgt := 18) dd_Mo_clear_9 (by decide) (fun _ => ?_) (fun h => absurd h (by decide))
    refine jj_aload_n 0 dd_Mo_clear_18 rfl ?_
    refine jj_rS (n := 77) hS dd_Mo_clear_19 ff_Mo_47 rfl (fun _ => rfl) rfl ?_
    refine jj_iload_n 1 dd_Mo_clear_22 rfl ?_
    refine jj_iconst (v := 4) dd_Mo_clear_23 rfl ?_
    refine jj_idiv dd_Mo_clear_24 (by decide) ?_
    refine jj_ti (x' := nI ((i) / 4)) (pk_div (a := i) (d := 4) (by omega) (by decide) (by decide)) ?_
    refine jj_zS hS dd_Mo_clear_25 rfl (vp_in_nI (n := (i) / 4) (by omega) (by decide)) ((i) / 4) (nI_clamp (n := (i) / 4) (by omega)) ?_
    refine jj_if_eq (tgt := 35) dd_Mo_clear_26 (by decide) (fun h26 => ?_) (fun h26 => ?_)
    · skip
      refine jj_aload_n 0 dd_Mo_clear_35 rfl ?_
      refine jj_rS (n := 65) hS dd_Mo_clear_36 ff_Mo_13 rfl (fun _ => rfl) rfl ?_
      refine jj_iload_n 1 dd_Mo_clear_39 rfl ?_
      refine jj_aS hS dd_Mo_clear_40 rfl (vp_in_nI (n := i) (by omega) (by decide)) (i) (nI_clamp (n := i) (by omega)) ?_
      refine jj_if_ne (tgt := 46) dd_Mo_clear_41 (by decide) (fun h41 => ?_) (fun h41 => ?_)
      · skip
        refine jj_aload_n 0 dd_Mo_clear_46 rfl ?_
        refine jj_iload_n 1 dd_Mo_clear_47 rfl ?_
        rw [if_pos h26, if_neg h41] at hQ
        refine jj_callV (ci := 7) [_] [] 0 0 dd_Mo_clear_48 cs_Mo_145 ci_Mo_145 (hS.1.1 60 _ rfl) ⟨by decide, rfl⟩ rfl (Nat.le_of_ble_eq_true rfl) ⟨(Nat.le_of_ble_eq_true rfl), (Nat.le_of_ble_eq_true rfl)⟩ ⟨(Nat.le_of_ble_eq_true rfl), (Nat.le_of_ble_eq_true rfl)⟩ rfl (cs_use (cs_Mo_clearing hi (hok.1 i hi).1 (hok.1 i hi).2 (hok.2 _ (hok.1 i hi).2).1 (hok.2 _ (hok.1 i hi).2).2 hr hr2 (cl_mono (fun r F1 hh => ?_) (cl_str hr hr2 hQ))) hS)
        intro M hS
        obtain ⟨hQ, hr3, hr4⟩ := hh
        have hr4 : rec_ F1 ≤ rec_ F + 2 := hr4
        refine jj_istore_n (lv' := [(2, .int _), (0, .ref (g 60)), (1, .int (nI (i)))]) dd_Mo_clear_51 (Nat.le_of_ble_eq_true rfl) rfl ?_
        refine jj_iload_n 0 dd_Mo_clear_52 rfl ?_
        refine jj_iconst (v := 1) dd_Mo_clear_53 rfl ?_
        refine jj_icmp_eq (tgt := 61) dd_Mo_clear_54 (by decide) (fun h54 => ?_) (fun h54 => ?_)
        · skip
          refine jj_aload_n 1 dd_Mo_clear_61 rfl ?_
          refine jj_iconst (v := 2) dd_Mo_clear_62 rfl ?_
          refine jj_callV (ci := 7) [_] [] 0 0 dd_Mo_clear_63 cs_Mo_134 ci_Mo_134 (hS.1.1 60 _ rfl) ⟨by decide, rfl⟩ rfl (Nat.le_of_ble_eq_true rfl) ⟨(Nat.le_of_ble_eq_true rfl), (Nat.le_of_ble_eq_true rfl)⟩ ⟨(Nat.le_of_ble_eq_true rfl), (Nat.le_of_ble_eq_true rfl)⟩ rfl (cs_use (cs_Mo_fails (fun M hS => ?_)) hS)
          refine jj_goto (tgt := 79) dd_Mo_clear_66 (by decide) ?_
          refine jj_iret dd_Mo_clear_79 rfl rfl ?_
          rw [if_pos h54] at hQ
          exact ⟨_, hS, hQ⟩
        · skip
          refine jj_iload_n 0 dd_Mo_clear_57 rfl ?_
          refine jj_if_ne (tgt := 69) dd_Mo_clear_58 (by decide) (fun h58 => ?_) (fun h58 => ?_)
          · skip
            refine jj_iload_n 0 dd_Mo_clear_69 rfl ?_
            refine jj_iconst (v := 2) dd_Mo_clear_70 rfl ?_
            refine jj_icmp_ne (tgt := 78) dd_Mo_clear_71 (by decide) (fun h71 => ?_) (fun h71 => ?_)
            · skip
              refine jj_iconst (v := 2) dd_Mo_clear_78 rfl ?_
              refine jj_iret dd_Mo_clear_79 rfl rfl ?_
              rw [if_neg h54, if_neg h58, if_neg h71] at hQ
              exact ⟨_, hS, hQ⟩
            · skip
              refine jj_iconst (v := 1) dd_Mo_clear_74 rfl ?_
              refine jj_goto (tgt := 79) dd_Mo_clear_75 (by decide) ?_
              refine jj_iret dd_Mo_clear_79 rfl rfl ?_
              rw [if_neg h54, if_neg h58, if_pos h71] at hQ
              exact ⟨_, hS, hQ⟩
          · skip
            refine jj_aload_n 1 dd_Mo_clear_61 rfl ?_
            refine jj_iconst (v := 2) dd_Mo_clear_62 rfl ?_
            refine jj_callV (ci := 7) [_] [] 0 0 dd_Mo_clear_63 cs_Mo_134 ci_Mo_134 (hS.1.1 60 _ rfl) ⟨by decide, rfl⟩ rfl (Nat.le_of_ble_eq_true rfl) ⟨(Nat.le_of_ble_eq_true rfl), (Nat.le_of_ble_eq_true rfl)⟩ ⟨(Nat.le_of_ble_eq_true rfl), (Nat.le_of_ble_eq_true rfl)⟩ rfl (cs_use (cs_Mo_fails (fun M hS => ?_)) hS)
            refine jj_goto (tgt := 79) dd_Mo_clear_66 (by decide) ?_
            refine jj_iret dd_Mo_clear_79 rfl rfl ?_
            rw [if_neg h54, if_pos h58] at hQ
            exact ⟨_, hS, hQ⟩
      · skip
        refine jj_iconst (v := 0) dd_Mo_clear_44 rfl ?_
        refine jj_iret dd_Mo_clear_45 rfl rfl ?_
        rw [if_pos h26, if_pos h41] at hQ
        exact ⟨_, hS, hQ⟩
    · skip
      refine jj_aload_n 0 dd_Mo_clear_29 rfl ?_
      refine jj_iconst (v := 2) dd_Mo_clear_30 rfl ?_
      refine jj_callV (ci := 7) [_] [] 0 0 dd_Mo_clear_31 cs_Mo_134 ci_Mo_134 (hS.1.1 60 _ rfl) ⟨by decide, rfl⟩ rfl (Nat.le_of_ble_eq_true rfl) ⟨(Nat.le_of_ble_eq_true rfl), (Nat.le_of_ble_eq_true rfl)⟩ ⟨(Nat.le_of_ble_eq_true rfl), (Nat.le_of_ble_eq_true rfl)⟩ rfl (cs_use (cs_Mo_fails (fun M hS => ?_)) hS)
      refine jj_iret dd_Mo_clear_34 rfl rfl ?_
      rw [if_neg h26] at hQ
      exact ⟨_, hS, hQ⟩
set_option maxRecDepth 20000 in
theorem cs_Mo_clear0 {l : Launch} {g : Nat → Nat} {S : ss_} {Q : Option Value → ss_ → Prop} {x : Int32} {F : Nat → Nat → Int32} (hF : uf_ S.1 60 1 0 = F) (hx : x < 0 ∨ 11 < x) (hQ : Q (some (.int 0)) (uf_ F 60 1 1, S.2)) : cs_ l yy_Mo_clear bb_Mo_clear 3 (some .int) 3 0 0 g [.ref (g 60), .int x] S Q := by
  intro M hS
  refine ct_of (by decide) (Nat.le_of_ble_eq_true rfl) (fun G A => ?_)
  refine jj_aload_n 0 dd_Mo_clear_0 rfl ?_
  refine jj_iconst (v := 0) dd_Mo_clear_1 rfl ?_
  refine jj_pS hS dd_Mo_clear_2 ⟨ff_Mo_93, rfl⟩ rfl (fun _ => rfl) ⟨rfl, rfl⟩ (fun M hS => ?_)
  rw [hF] at hS
  refine jj_iload_n 1 dd_Mo_clear_5 rfl ?_
  refine jj_callS [_] [] 0 0 dd_Mo_clear_6 cs_Mo_142 ci_Mo_142 rfl (Nat.le_of_ble_eq_true rfl) ⟨(Nat.le_of_ble_eq_true rfl), (Nat.le_of_ble_eq_true rfl)⟩ ⟨(Nat.le_of_ble_eq_true rfl), (Nat.le_of_ble_eq_true rfl)⟩ rfl (ct_Mo_isCell (fun hb => ?_) (fun hb hb2 => ?_))
  · skip
    refine jj_if_ne (tgt := 18) dd_Mo_clear_9 (by decide) (fun h => absurd h (by decide)) (fun _ => ?_)
    refine jj_aload_n 0 dd_Mo_clear_12 rfl ?_
    refine jj_iconst (v := 1) dd_Mo_clear_13 rfl ?_
    refine jj_callV (ci := 7) [_] [] 0 0 dd_Mo_clear_14 cs_Mo_134 ci_Mo_134 (hS.1.1 60 _ rfl) ⟨by decide, rfl⟩ rfl (Nat.le_of_ble_eq_true rfl) ⟨(Nat.le_of_ble_eq_true rfl), (Nat.le_of_ble_eq_true rfl)⟩ ⟨(Nat.le_of_ble_eq_true rfl), (Nat.le_of_ble_eq_true rfl)⟩ rfl (cs_use (cs_Mo_fails (fun M hS => ?_)) hS)
    refine jj_iret dd_Mo_clear_17 rfl rfl ?_
    exact ⟨_, hS, hQ⟩
  · skip
    exact absurd hx (fun h => h.elim hb hb2)
set_option maxRecDepth 20000 in
theorem cs_Mo_tick {l : Launch} {g : Nat → Nat} {S : ss_} {Q : Option Value → ss_ → Prop} {x : Int32} {F : Nat → Nat → Int32} (hF : uf_ S.1 60 1 0 = F) (hx : ¬ x < 0) (hx2 : ¬ 50 < x) (hQ : Q (some (.int (F 60 2 + x))) (uf_ F 60 2 (F 60 2 + x), S.2)) : cs_ l yy_Mo_tick bb_Mo_tick 2 (some .int) 1 0 0 g [.ref (g 60), .int x] S Q := by
  intro M hS
  refine ct_of (by decide) (Nat.le_of_ble_eq_true rfl) (fun G A => ?_)
  refine jj_aload_n 0 dd_Mo_tick_0 rfl ?_
  refine jj_iconst (v := 0) dd_Mo_tick_1 rfl ?_
  refine jj_pS hS dd_Mo_tick_2 ⟨ff_Mo_93, rfl⟩ rfl (fun _ => rfl) ⟨rfl, rfl⟩ (fun M hS => ?_)
  rw [hF] at hS
  refine jj_iload_n 1 dd_Mo_tick_5 rfl ?_
  refine jj_iconst (v := 0) dd_Mo_tick_6 rfl ?_
  refine jj_bipush (v := 50) dd_Mo_tick_7 rfl ?_
  refine jj_callS [_, _, _] [] 0 0 dd_Mo_tick_9 cs_Mo_127 ci_Mo_127 rfl (Nat.le_of_ble_eq_true rfl) ⟨(Nat.le_of_ble_eq_true rfl), (Nat.le_of_ble_eq_true rfl)⟩ ⟨(Nat.le_of_ble_eq_true rfl), (Nat.le_of_ble_eq_true rfl)⟩ rfl (ct_Mo_in (fun hb => ?_) (fun hb hb2 => ?_))
  · skip
    exact absurd hb (fun h => h.elim hx hx2)
  · skip
    refine jj_if_ne (tgt := 17) dd_Mo_tick_12 (by decide) (fun _ => ?_) (fun h => absurd h (by decide))
    refine jj_aload_n 0 dd_Mo_tick_17 rfl ?_
    refine jj_dup dd_Mo_tick_18 rfl ?_
    refine jj_gS hS dd_Mo_tick_19 ff_Mo_110 rfl (fun _ => rfl) ?_
    refine jj_iload_n 1 dd_Mo_tick_22 rfl ?_
    refine jj_iadd dd_Mo_tick_23 ?_
    refine jj_pS hS dd_Mo_tick_24 ⟨ff_Mo_110, rfl⟩ rfl (fun _ => rfl) ⟨rfl, rfl⟩ (fun M hS => ?_)
    refine jj_aload_n 0 dd_Mo_tick_27 rfl ?_
    refine jj_gS hS dd_Mo_tick_28 ff_Mo_110 rfl (fun _ => rfl) ?_
    refine jj_iret dd_Mo_tick_31 rfl rfl ?_
    refine ⟨_, hS, ?_⟩
    simpa [uf_at] using hQ
set_option maxRecDepth 20000 in
theorem cs_Mo_tick0 {l : Launch} {g : Nat → Nat} {S : ss_} {Q : Option Value → ss_ → Prop} {x : Int32} {F : Nat → Nat → Int32} (hF : uf_ S.1 60 1 0 = F) (hx : x < 0 ∨ 50 < x) (hQ : Q (some (.int (-1))) (F, S.2)) : cs_ l yy_Mo_tick bb_Mo_tick 2 (some .int) 1 0 0 g [.ref (g 60), .int x] S Q := by
  intro M hS
  refine ct_of (by decide) (Nat.le_of_ble_eq_true rfl) (fun G A => ?_)
  refine jj_aload_n 0 dd_Mo_tick_0 rfl ?_
  refine jj_iconst (v := 0) dd_Mo_tick_1 rfl ?_
  refine jj_pS hS dd_Mo_tick_2 ⟨ff_Mo_93, rfl⟩ rfl (fun _ => rfl) ⟨rfl, rfl⟩ (fun M hS => ?_)
  rw [hF] at hS
  refine jj_iload_n 1 dd_Mo_tick_5 rfl ?_
  refine jj_iconst (v := 0) dd_Mo_tick_6 rfl ?_
  refine jj_bipush (v := 50) dd_Mo_tick_7 rfl ?_
  refine jj_callS [_, _, _] [] 0 0 dd_Mo_tick_9 cs_Mo_127 ci_Mo_127 rfl (Nat.le_of_ble_eq_true rfl) ⟨(Nat.le_of_ble_eq_true rfl), (Nat.le_of_ble_eq_true rfl)⟩ ⟨(Nat.le_of_ble_eq_true rfl), (Nat.le_of_ble_eq_true rfl)⟩ rfl (ct_Mo_in (fun hb => ?_) (fun hb hb2 => ?_))
  · skip
    refine jj_if_ne (tgt := 17) dd_Mo_tick_12 (by decide) (fun h => absurd h (by decide)) (fun _ => ?_)
    refine jj_iconst (v := (-1)) dd_Mo_tick_15 rfl ?_
    refine jj_iret dd_Mo_tick_16 rfl rfl ?_
    exact ⟨_, hS, hQ⟩
  · skip
    exact absurd hx (fun h => h.elim hb hb2)
set_option maxRecDepth 20000 in
theorem cs_Mo_crash {l : Launch} {g : Nat → Nat} {S : ss_} {Q : Option Value → ss_ → Prop} {t : Nat} {F : Nat → Nat → Int32} (hF : uf_ S.1 60 1 0 = F) (ht : t < 3) (hQ : cr_ F t (fun r F => Q (some (.int r)) (F, S.2))) : cs_ l yy_Mo_crash bb_Mo_crash 2 (some .boolean) 1 0 0 g [.ref (g 60), .int (nI t)] S Q := by
  intro M hS
  refine ct_of (by decide) (Nat.le_of_ble_eq_true rfl) (fun G A => ?_)
  unfold cr_ at hQ
  refine jj_aload_n 0 dd_Mo_crash_0 rfl ?_
  refine jj_iconst (v := 0) dd_Mo_crash_1 rfl ?_
  refine jj_pS hS dd_Mo_crash_2 ⟨ff_Mo_93, rfl⟩ rfl (fun _ => rfl) ⟨rfl, rfl⟩ (fun M hS => ?_)
  rw [hF] at hS
  refine jj_iload_n 1 dd_Mo_crash_5 rfl ?_
  refine jj_iconst (v := 0) dd_Mo_crash_6 rfl ?_
  refine jj_iconst (v := 2) dd_Mo_crash_7 rfl ?_
  refine jj_callS [_, _, _] [] 0 0 dd_Mo_crash_8 cs_Mo_127 ci_Mo_127 rfl (Nat.le_of_ble_eq_true rfl) ⟨(Nat.le_of_ble_eq_true rfl), (Nat.le_of_ble_eq_true rfl)⟩ ⟨(Nat.le_of_ble_eq_true rfl), (Nat.le_of_ble_eq_true rfl)⟩ rfl (ct_Mo_in (fun hb => ?_) (fun hb hb2 => ?_))
  · skip
    exact absurd hb (nc_ (n := 2) (by decide) (by omega) (by decide))
  · skip
    refine jj_if_eq (tgt := 23) dd_Mo_crash_11 (by decide) (fun h => absurd h (by decide)) (fun _ => ?_)
    refine jj_aload_n 0 dd_Mo_crash_14 rfl ?_
    refine jj_rS (n := 77) hS dd_Mo_crash_15 ff_Mo_47 rfl (fun _ => rfl) rfl ?_
    refine jj_iload_n 1 dd_Mo_crash_18 rfl ?_
    refine jj_zS hS dd_Mo_crash_19 rfl (vp_in_nI (n := t) (by omega) (by decide)) (t) (nI_clamp (n := t) (by omega)) ?_
    refine jj_if_eq (tgt := 25) dd_Mo_crash_20 (by decide) (fun h20 => ?_) (fun h20 => ?_)
    · skip
      refine jj_aload_n 0 dd_Mo_crash_25 rfl ?_
      refine jj_rS (n := 77) hS dd_Mo_crash_26 ff_Mo_47 rfl (fun _ => rfl) rfl ?_
      refine jj_iload_n 1 dd_Mo_crash_29 rfl ?_
      refine jj_iconst (v := 1) dd_Mo_crash_30 rfl ?_
      refine jj_zsS hS dd_Mo_crash_31 rfl (vp_in_nI (n := t) (by omega) (by decide)) rfl (t) (nI_clamp (n := t) (by omega)) (fun M hS => ?_)
      refine jj_iconst (v := 1) dd_Mo_crash_32 rfl ?_
      refine jj_iret dd_Mo_crash_33 rfl rfl ?_
      rw [if_pos h20] at hQ
      exact ⟨_, hS, hQ⟩
    · skip
      refine jj_iconst (v := 0) dd_Mo_crash_23 rfl ?_
      refine jj_iret dd_Mo_crash_24 rfl rfl ?_
      rw [if_neg h20] at hQ
      exact ⟨_, hS, hQ⟩
set_option maxRecDepth 20000 in
theorem cs_Mo_crash0 {l : Launch} {g : Nat → Nat} {S : ss_} {Q : Option Value → ss_ → Prop} {x : Int32} {F : Nat → Nat → Int32} (hF : uf_ S.1 60 1 0 = F) (hx : x < 0 ∨ 2 < x) (hQ : Q (some (.int 0)) (F, S.2)) : cs_ l yy_Mo_crash bb_Mo_crash 2 (some .boolean) 1 0 0 g [.ref (g 60), .int x] S Q := by
  intro M hS
  refine ct_of (by decide) (Nat.le_of_ble_eq_true rfl) (fun G A => ?_)
  refine jj_aload_n 0 dd_Mo_crash_0 rfl ?_
  refine jj_iconst (v := 0) dd_Mo_crash_1 rfl ?_
  refine jj_pS hS dd_Mo_crash_2 ⟨ff_Mo_93, rfl⟩ rfl (fun _ => rfl) ⟨rfl, rfl⟩ (fun M hS => ?_)
  rw [hF] at hS
  refine jj_iload_n 1 dd_Mo_crash_5 rfl ?_
  refine jj_iconst (v := 0) dd_Mo_crash_6 rfl ?_
  refine jj_iconst (v := 2) dd_Mo_crash_7 rfl ?_
  refine jj_callS [_, _, _] [] 0 0 dd_Mo_crash_8 cs_Mo_127 ci_Mo_127 rfl (Nat.le_of_ble_eq_true rfl) ⟨(Nat.le_of_ble_eq_true rfl), (Nat.le_of_ble_eq_true rfl)⟩ ⟨(Nat.le_of_ble_eq_true rfl), (Nat.le_of_ble_eq_true rfl)⟩ rfl (ct_Mo_in (fun hb => ?_) (fun hb hb2 => ?_))
  · skip
    refine jj_if_eq (tgt := 23) dd_Mo_crash_11 (by decide) (fun _ => ?_) (fun h => absurd h (by decide))
    refine jj_iconst (v := 0) dd_Mo_crash_23 rfl ?_
    refine jj_iret dd_Mo_crash_24 rfl rfl ?_
    exact ⟨_, hS, hQ⟩
  · skip
    exact absurd hx (fun h => h.elim hb hb2)
set_option maxRecDepth 20000 in
theorem cs_Mo_recover {l : Launch} {g : Nat → Nat} {S : ss_} {Q : Option Value → ss_ → Prop} {t : Nat} {F : Nat → Nat → Int32} (hF : uf_ S.1 60 1 0 = F) (ht : t < 3) (hQ : re_ F t (fun r F => Q (some (.int r)) (F, S.2))) : cs_ l yy_Mo_recover bb_Mo_recover 2 (some .boolean) 1 0 0 g [.ref (g 60), .int (nI t)] S Q := by
  intro M hS
  refine ct_of (by decide) (Nat.le_of_ble_eq_true rfl) (fun G A => ?_)
  unfold re_ at hQ
  refine jj_aload_n 0 dd_Mo_recover_0 rfl ?_
  refine jj_iconst (v := 0) dd_Mo_recover_1 rfl ?_
  refine jj_pS hS dd_Mo_recover_2 ⟨ff_Mo_93, rfl⟩ rfl (fun _ => rfl) ⟨rfl, rfl⟩ (fun M hS => ?_)
  rw [hF] at hS
  refine jj_iload_n 1 dd_Mo_recover_5 rfl ?_
  refine jj_iconst (v := 0) dd_Mo_recover_6 rfl ?_
  refine jj_iconst (v := 2) dd_Mo_recover_7 rfl ?_
  refine jj_callS [_, _, _] [] 0 0 dd_Mo_recover_8 cs_Mo_127 ci_Mo_127 rfl (Nat.le_of_ble_eq_true rfl) ⟨(Nat.le_of_ble_eq_true rfl), (Nat.le_of_ble_eq_true rfl)⟩ ⟨(Nat.le_of_ble_eq_true rfl), (Nat.le_of_ble_eq_true rfl)⟩ rfl (ct_Mo_in (fun hb => ?_) (fun hb hb2 => ?_))
  · skip
    exact absurd hb (nc_ (n := 2) (by decide) (by omega) (by decide))
  · skip
    refine jj_if_eq (tgt := 23) dd_Mo_recover_11 (by decide) (fun h => absurd h (by decide)) (fun _ => ?_)
    refine jj_aload_n 0 dd_Mo_recover_14 rfl ?_
    refine jj_rS (n := 77) hS dd_Mo_recover_15 ff_Mo_47 rfl (fun _ => rfl) rfl ?_
    refine jj_iload_n 1 dd_Mo_recover_18 rfl ?_
    refine jj_zS hS dd_Mo_recover_19 rfl (vp_in_nI (n := t) (by omega) (by decide)) (t) (nI_clamp (n := t) (by omega)) ?_
    refine jj_if_ne (tgt := 25) dd_Mo_recover_20 (by decide) (fun h20 => ?_) (fun h20 => ?_)
    · skip
      refine jj_aload_n 0 dd_Mo_recover_25 rfl ?_
      refine jj_rS (n := 77) hS dd_Mo_recover_26 ff_Mo_47 rfl (fun _ => rfl) rfl ?_
      refine jj_iload_n 1 dd_Mo_recover_29 rfl ?_
      refine jj_iconst (v := 0) dd_Mo_recover_30 rfl ?_
      refine jj_zsS hS dd_Mo_recover_31 rfl (vp_in_nI (n := t) (by omega) (by decide)) rfl (t) (nI_clamp (n := t) (by omega)) (fun M hS => ?_)
      refine jj_aload_n 0 dd_Mo_recover_32 rfl ?_
      refine jj_rS (n := 81) hS dd_Mo_recover_33 ff_Mo_60 rfl (fun _ => rfl) rfl ?_
      refine jj_iload_n 1 dd_Mo_recover_36 rfl ?_
      refine jj_iconst (v := 0) dd_Mo_recover_37 rfl ?_
      refine jj_asS hS dd_Mo_recover_38 rfl (vp_in_nI (n := t) (by omega) (by decide)) (t) (nI_clamp (n := t) (by omega)) (fun M hS => ?_)
      refine jj_iconst (v := 1) dd_Mo_recover_39 rfl ?_
      refine jj_iret dd_Mo_recover_40 rfl rfl ?_
      rw [if_neg h20] at hQ
      exact ⟨_, hS, hQ⟩
    · skip
      refine jj_iconst (v := 0) dd_Mo_recover_23 rfl ?_
      refine jj_iret dd_Mo_recover_24 rfl rfl ?_
      rw [if_pos h20] at hQ
      exact ⟨_, hS, hQ⟩
set_option maxRecDepth 20000 in
theorem cs_Mo_recover0 {l : Launch} {g : Nat → Nat} {S : ss_} {Q : Option Value → ss_ → Prop} {x : Int32} {F : Nat → Nat → Int32} (hF : uf_ S.1 60 1 0 = F) (hx : x < 0 ∨ 2 < x) (hQ : Q (some (.int 0)) (F, S.2)) : cs_ l yy_Mo_recover bb_Mo_recover 2 (some .boolean) 1 0 0 g [.ref (g 60), .int x] S Q := by
  intro M hS
  refine ct_of (by decide) (Nat.le_of_ble_eq_true rfl) (fun G A => ?_)
  refine jj_aload_n 0 dd_Mo_recover_0 rfl ?_
  refine jj_iconst (v := 0) dd_Mo_recover_1 rfl ?_
  refine jj_pS hS dd_Mo_recover_2 ⟨ff_Mo_93, rfl⟩ rfl (fun _ => rfl) ⟨rfl, rfl⟩ (fun M hS => ?_)
  rw [hF] at hS
  refine jj_iload_n 1 dd_Mo_recover_5 rfl ?_
  refine jj_iconst (v := 0) dd_Mo_recover_6 rfl ?_
  refine jj_iconst (v := 2) dd_Mo_recover_7 rfl ?_
  refine jj_callS [_, _, _] [] 0 0 dd_Mo_recover_8 cs_Mo_127 ci_Mo_127 rfl (Nat.le_of_ble_eq_true rfl) ⟨(Nat.le_of_ble_eq_true rfl), (Nat.le_of_ble_eq_true rfl)⟩ ⟨(Nat.le_of_ble_eq_true rfl), (Nat.le_of_ble_eq_true rfl)⟩ rfl (ct_Mo_in (fun hb => ?_) (fun hb hb2 => ?_))
  · skip
    refine jj_if_eq (tgt := 23) dd_Mo_recover_11 (by decide) (fun _ => ?_) (fun h => absurd h (by decide))
    refine jj_iconst (v := 0) dd_Mo_recover_23 rfl ?_
    refine jj_iret dd_Mo_recover_24 rfl rfl ?_
    exact ⟨_, hS, hQ⟩
  · skip
    exact absurd hx (fun h => h.elim hb hb2)
set_option maxRecDepth 20000 in
theorem cs_Mo_fail {l : Launch} {g : Nat → Nat} {S : ss_} {Q : Option Value → ss_ → Prop} {t : Nat} {x z : Int32} {F : Nat → Nat → Int32} (hF : uf_ S.1 60 1 0 = F) (ht : t < 3) (hx : ¬ x < 0) (hx2 : ¬ 20 < x) (hz : z = 0 ∨ z = 1) (hQ : Q (some (.int 1)) (uf_ (uf_ F 81 t x) 82 t z, S.2)) : cs_ l yy_Mo_fail bb_Mo_fail 4 (some .boolean) 1 0 0 g [.ref (g 60), .int (nI t), .int x, .int z] S Q := by
  intro M hS
  refine ct_of (by decide) (Nat.le_of_ble_eq_true rfl) (fun G A => ?_)
  refine jj_aload_n 0 dd_Mo_fail_0 rfl ?_
  refine jj_iconst (v := 0) dd_Mo_fail_1 rfl ?_
  refine jj_pS hS dd_Mo_fail_2 ⟨ff_Mo_93, rfl⟩ rfl (fun _ => rfl) ⟨rfl, rfl⟩ (fun M hS => ?_)
  rw [hF] at hS
  refine jj_iload_n 1 dd_Mo_fail_5 rfl ?_
  refine jj_iconst (v := 0) dd_Mo_fail_6 rfl ?_
  refine jj_iconst (v := 2) dd_Mo_fail_7 rfl ?_
  refine jj_callS [_, _, _] [] 0 0 dd_Mo_fail_8 cs_Mo_127 ci_Mo_127 rfl (Nat.le_of_ble_eq_true rfl) ⟨(Nat.le_of_ble_eq_true rfl), (Nat.le_of_ble_eq_true rfl)⟩ ⟨(Nat.le_of_ble_eq_true rfl), (Nat.le_of_ble_eq_true rfl)⟩ rfl (ct_Mo_in (fun hb => ?_) (fun hb hb2 => ?_))
  · skip
    exact absurd hb (nc_ (n := 2) (by decide) (by omega) (by decide))
  · skip
    refine jj_if_eq (tgt := 24) dd_Mo_fail_11 (by decide) (fun h => absurd h (by decide)) (fun _ => ?_)
    refine jj_iload_n 2 dd_Mo_fail_14 rfl ?_
    refine jj_iconst (v := 0) dd_Mo_fail_15 rfl ?_
    refine jj_bipush (v := 20) dd_Mo_fail_16 rfl ?_
    refine jj_callS [_, _, _] [] 0 0 dd_Mo_fail_18 cs_Mo_127 ci_Mo_127 rfl (Nat.le_of_ble_eq_true rfl) ⟨(Nat.le_of_ble_eq_true rfl), (Nat.le_of_ble_eq_true rfl)⟩ ⟨(Nat.le_of_ble_eq_true rfl), (Nat.le_of_ble_eq_true rfl)⟩ rfl (ct_Mo_in (fun hb => ?_) (fun hb hb2 => ?_))
    · skip
      exact absurd hb (fun h => h.elim hx hx2)
    · skip
      refine jj_if_ne (tgt := 26) dd_Mo_fail_21 (by decide) (fun _ => ?_) (fun h => absurd h (by decide))
      refine jj_aload_n 0 dd_Mo_fail_26 rfl ?_
      refine jj_rS (n := 81) hS dd_Mo_fail_27 ff_Mo_60 rfl (fun _ => rfl) rfl ?_
      refine jj_iload_n 1 dd_Mo_fail_30 rfl ?_
      refine jj_iload_n 2 dd_Mo_fail_31 rfl ?_
      refine jj_asS hS dd_Mo_fail_32 rfl (vp_in_nI (n := t) (by omega) (by decide)) (t) (nI_clamp (n := t) (by omega)) (fun M hS => ?_)
      refine jj_aload_n 0 dd_Mo_fail_33 rfl ?_
      refine jj_rS (n := 82) hS dd_Mo_fail_34 ff_Mo_63 rfl (fun _ => rfl) rfl ?_
      refine jj_iload_n 1 dd_Mo_fail_37 rfl ?_
      refine jj_iload_n 3 dd_Mo_fail_38 rfl ?_
      refine jj_zsS hS dd_Mo_fail_39 rfl (vp_in_nI (n := t) (by omega) (by decide)) (mm_bl hz).1 (t) (nI_clamp (n := t) (by omega)) (fun M hS => ?_)
      refine jj_iconst (v := 1) dd_Mo_fail_40 rfl ?_
      refine jj_iret dd_Mo_fail_41 rfl rfl ?_
      exact ⟨_, hS, hQ⟩
set_option maxRecDepth 20000 in
theorem cs_Mo_fail0 {l : Launch} {g : Nat → Nat} {S : ss_} {Q : Option Value → ss_ → Prop} {u v z : Int32} {F : Nat → Nat → Int32} (hF : uf_ S.1 60 1 0 = F) (hx : (u < 0 ∨ 2 < u) ∨ (v < 0 ∨ 20 < v)) (hQ : Q (some (.int 0)) (F, S.2)) : cs_ l yy_Mo_fail bb_Mo_fail 4 (some .boolean) 1 0 0 g [.ref (g 60), .int u, .int v, .int z] S Q := by
  intro M hS
  refine ct_of (by decide) (Nat.le_of_ble_eq_true rfl) (fun G A => ?_)
  refine jj_aload_n 0 dd_Mo_fail_0 rfl ?_
  refine jj_iconst (v := 0) dd_Mo_fail_1 rfl ?_
  refine jj_pS hS dd_Mo_fail_2 ⟨ff_Mo_93, rfl⟩ rfl (fun _ => rfl) ⟨rfl, rfl⟩ (fun M hS => ?_)
  rw [hF] at hS
  refine jj_iload_n 1 dd_Mo_fail_5 rfl ?_
  refine jj_iconst (v := 0) dd_Mo_fail_6 rfl ?_
  refine jj_iconst (v := 2) dd_Mo_fail_7 rfl ?_
  refine jj_callS [_, _, _] [] 0 0 dd_Mo_fail_8 cs_Mo_127 ci_Mo_127 rfl (Nat.le_of_ble_eq_true rfl) ⟨(Nat.le_of_ble_eq_true rfl), (Nat.le_of_ble_eq_true rfl)⟩ ⟨(Nat.le_of_ble_eq_true rfl), (Nat.le_of_ble_eq_true rfl)⟩ rfl (ct_Mo_in (fun hb => ?_) (fun hb hb2 => ?_))
  · skip
    refine jj_if_eq (tgt := 24) dd_Mo_fail_11 (by decide) (fun _ => ?_) (fun h => absurd h (by decide))
    refine jj_iconst (v := 0) dd_Mo_fail_24 rfl ?_
    refine jj_iret dd_Mo_fail_25 rfl rfl ?_
    exact ⟨_, hS, hQ⟩
  · skip
    have hv := hx.resolve_left (fun h => h.elim hb hb2)
    refine jj_if_eq (tgt := 24) dd_Mo_fail_11 (by decide) (fun h => absurd h (by decide)) (fun _ => ?_)
    refine jj_iload_n 2 dd_Mo_fail_14 rfl ?_
    refine jj_iconst (v := 0) dd_Mo_fail_15 rfl ?_
    refine jj_bipush (v := 20) dd_Mo_fail_16 rfl ?_
    refine jj_callS [_, _, _] [] 0 0 dd_Mo_fail_18 cs_Mo_127 ci_Mo_127 rfl (Nat.le_of_ble_eq_true rfl) ⟨(Nat.le_of_ble_eq_true rfl), (Nat.le_of_ble_eq_true rfl)⟩ ⟨(Nat.le_of_ble_eq_true rfl), (Nat.le_of_ble_eq_true rfl)⟩ rfl (ct_Mo_in (fun hb => ?_) (fun hb hb2 => ?_))
    · skip
      refine jj_if_ne (tgt := 26) dd_Mo_fail_21 (by decide) (fun h => absurd h (by decide)) (fun _ => ?_)
      refine jj_iconst (v := 0) dd_Mo_fail_24 rfl ?_
      refine jj_iret dd_Mo_fail_25 rfl rfl ?_
      exact ⟨_, hS, hQ⟩
    · skip
      exact absurd hv (fun h => h.elim hb hb2)
set_option maxRecDepth 20000 in
theorem cs_Mo_failOracle {l : Launch} {g : Nat → Nat} {S : ss_} {Q : Option Value → ss_ → Prop} {F : Nat → Nat → Int32} (hF : uf_ S.1 60 1 0 = F) (hQ : Q (some (.int (F 60 4 + 1))) (uf_ F 60 3 (F 60 4 + 1), S.2)) : cs_ l yy_Mo_failOracle bb_Mo_failOracle 1 (some .int) 0 0 0 g [.ref (g 60)] S Q := by
  intro M hS
  refine ct_of (by decide) (Nat.le_of_ble_eq_true rfl) (fun G A => ?_)
  refine jj_aload_n 0 dd_Mo_failOracle_0 rfl ?_
  refine jj_iconst (v := 0) dd_Mo_failOracle_1 rfl ?_
  refine jj_pS hS dd_Mo_failOracle_2 ⟨ff_Mo_93, rfl⟩ rfl (fun _ => rfl) ⟨rfl, rfl⟩ (fun M hS => ?_)
  rw [hF] at hS
  refine jj_aload_n 0 dd_Mo_failOracle_5 rfl ?_
  refine jj_aload_n 0 dd_Mo_failOracle_6 rfl ?_
  refine jj_gS hS dd_Mo_failOracle_7 ff_Mo_96 rfl (fun _ => rfl) ?_
  refine jj_iconst (v := 1) dd_Mo_failOracle_10 rfl ?_
  refine jj_iadd dd_Mo_failOracle_11 ?_
  refine jj_pS hS dd_Mo_failOracle_12 ⟨ff_Mo_7, rfl⟩ rfl (fun _ => rfl) ⟨rfl, rfl⟩ (fun M hS => ?_)
  refine jj_aload_n 0 dd_Mo_failOracle_15 rfl ?_
  refine jj_gS hS dd_Mo_failOracle_16 ff_Mo_7 rfl (fun _ => rfl) ?_
  refine jj_iret dd_Mo_failOracle_19 rfl rfl ?_
  refine ⟨_, hS, ?_⟩
  simpa [uf_at] using hQ
end
section
theorem dx_mono {F : Nat → Nat → Int32} {c : Nat} {K K' : Int32 → (Nat → Nat → Int32) → Prop} (hK : ∀ r F1, K r F1 → K' r F1) (h : dx_ F c K) : dx_ F c K' := by
  revert h
  unfold dx_
  repeat' first | with_reducible refine mm_itm (fun _ => ?_) (fun _ => ?_) | with_reducible exact hK _ _
theorem fx_mono {F : Nat → Nat → Int32} {c i : Nat} {K K' : Int32 → (Nat → Nat → Int32) → Prop} (hK : ∀ r F1, K r F1 → K' r F1) (h : fx_ F c i K) : fx_ F c i K' := by
  revert h
  unfold fx_
  repeat' first | with_reducible refine mm_itm (fun _ => ?_) (fun _ => ?_) | with_reducible exact hK _ _
theorem pc_mono {F : Nat → Nat → Int32} {c i : Nat} {K K' : Int32 → (Nat → Nat → Int32) → Prop} (hK : ∀ r F1, K r F1 → K' r F1) (h : pc_ F c i K) : pc_ F c i K' := by
  revert h
  unfold pc_
  repeat' first | with_reducible refine mm_itm (fun _ => ?_) (fun _ => ?_) | with_reducible exact hK _ _
theorem de_mono {F : Nat → Nat → Int32} {c : Nat} {K K' : Int32 → (Nat → Nat → Int32) → Prop} (hK : ∀ r F1, K r F1 → K' r F1) (h : de_ F c K) : de_ F c K' := by
  revert h
  unfold de_
  repeat' first | with_reducible refine mm_itm (fun _ => ?_) (fun _ => ?_) | with_reducible exact hK _ _ | exact dx_mono hK
theorem fo_mono {F : Nat → Nat → Int32} {c : Nat} {K K' : Int32 → (Nat → Nat → Int32) → Prop} (hK : ∀ r F1, K r F1 → K' r F1) (h : fo_ F c K) : fo_ F c K' := by
  revert h
  unfold fo_
  repeat' first | with_reducible refine mm_itm (fun _ => ?_) (fun _ => ?_) | with_reducible exact hK _ _ | exact fx_mono hK
theorem pw_mono {F : Nat → Nat → Int32} {c i : Nat} {K K' : Int32 → (Nat → Nat → Int32) → Prop} (hK : ∀ r F1, K r F1 → K' r F1) (h : pw_ F c i K) : pw_ F c i K' := by
  revert h
  unfold pw_
  repeat' first | with_reducible refine mm_itm (fun _ => ?_) (fun _ => ?_) | with_reducible exact hK _ _ | with_reducible exact pc_mono hK | with_reducible refine cl_mono (fun _ _ => ?_)
def sq_ (F : Nat → Nat → Int32) (c : Nat) (K : Int32 → (Nat → Nat → Int32) → Prop) : Prop :=
  if F 87 (12 * c + fi_ F c) = 0 then K 7 (uf_ F 83 c 0)
  else if 12 ≤ nI (nx_ F c 0) then
    if F 85 c = 0 then K 2 (uf_ (ho_F F) 85 c (F 60 3 + 1 - 1)) else if F 86 c = 0 then de_ F c K else fo_ F c K
  else pw_ F c (nx_ F c 0) K
def tb_ (F : Nat → Nat → Int32) (t : Nat) (y : Int32) (K : Int32 → (Nat → Nat → Int32) → Prop) : Prop := if y = 0 then K (F 79 t) F else if y = 2 then K (F 80 t) F else if F 77 t = 0 then K (F 78 t) F else K (-1) F
def oc_ (F : Nat → Nat → Int32) (y : Int32) (K : Int32 → (Nat → Nat → Int32) → Prop) : Prop := if y = 0 then K (F 60 3) F else if y = 1 then K (F 60 4) F else if y = 2 then K (F 60 2) F else K (-1) F
def lk_ (F : Nat → Nat → Int32) (i : Nat) (y : Int32) (K : Int32 → (Nat → Nat → Int32) → Prop) : Prop :=
  if F 65 i = 0 then K (-1) F
  else if F 77 (i / 4) = 0 then
    if 3 ≤ y then
      if y = 3 then K (F 68 i) F
      else if y = 4 then (if ls_ F i (on_ F i) = 0 then K 0 F else K 1 F)
      else if F 69 i = 1 then K (F 70 i) F else K 0 F
    else if y = 0 then K (F 65 i) F else if y = 1 then K (F 66 i) F else K (F 67 i) F
  else K (-1) F
def tr_go (F : Nat → Nat → Int32) (c : Nat) (y : Int32) : Nat → Nat → Int32 → Int32
  | 0, _, z => z
  | n + 1, k, z => tr_go F c y n (k + 1) (if y = 3 then (if F 87 (12 * c + k) ≤ 0 then z else z + ((1 : Int32) <<< (nI k &&& 31))) else (if F 89 (12 * c + k) = 0 then z else z + ((1 : Int32) <<< (nI k &&& 31))))
def ta_ (F : Nat → Nat → Int32) (c : Nat) (y : Int32) (z : Int32) (K : Int32 → (Nat → Nat → Int32) → Prop) : Prop :=
  if y = 0 then K (F 83 c) F else if y = 1 then K (F 84 c) F else if y = 2 then K (F 85 c) F else if 5 ≤ y then (if F 86 c = 0 then K 0 F else K 1 F) else K z F
set_option maxRecDepth 20000 in
theorem cs_Mo_step {l : Launch} {g : Nat → Nat} {S : ss_} {Q : Option Value → ss_ → Prop} {c : Nat} {F : Nat → Nat → Int32} (hF : uf_ S.1 60 1 0 = F) {F1 : Nat → Nat → Int32} (hF1 : uf_ F 83 c 2 = F1) (hc : c < 4) (hok : ok_ F1) (hn : ¬ F1 86 c = 0 → nx_ F1 c 1 < 12) (hr : F1 60 11 = nI (rec_ F1)) (hr2 : rec_ F1 < 1538) (hQ : if F 83 c = 0 then Q (some (.int 0)) (uf_ F 60 1 2, S.2) else sq_ (uf_ F 83 c 2) c (fun r F => Q (some (.int r)) (F, S.2))) : cs_ l yy_Mo_step bb_Mo_step 3 (some .int) 4 0 0 g [.ref (g 60), .int (nI c)] S Q := by
  intro M hS
  refine ct_of (by decide) (Nat.le_of_ble_eq_true rfl) (fun G A => ?_)
  refine jj_aload_n 0 dd_Mo_step_0 rfl ?_
  refine jj_iconst (v := 0) dd_Mo_step_1 rfl ?_
  refine jj_pS hS dd_Mo_step_2 ⟨ff_Mo_93, rfl⟩ rfl (fun _ => rfl) ⟨rfl, rfl⟩ (fun M hS => ?_)
  rw [hF] at hS
  refine jj_aload_n 0 dd_Mo_step_5 rfl ?_
  refine jj_iload_n 1 dd_Mo_step_6 rfl ?_
  refine jj_callV (ci := 7) [_] [] 0 0 dd_Mo_step_7 cs_Mo_131 ci_Mo_131 (hS.1.1 60 _ rfl) ⟨by decide, rfl⟩ rfl (Nat.le_of_ble_eq_true rfl) ⟨(Nat.le_of_ble_eq_true rfl), (Nat.le_of_ble_eq_true rfl)⟩ ⟨(Nat.le_of_ble_eq_true rfl), (Nat.le_of_ble_eq_true rfl)⟩ rfl (ct_Mo_isClient (fun hb => ?_) (fun hb hb2 => ?_))
  · skip
    exact absurd hb (nc_ (n := 3) (by decide) (by omega) (by decide))
  · skip
    refine jj_if_ne (tgt := 19) dd_Mo_step_10 (by decide) (fun _ => ?_) (fun h => absurd h (by decide))
    refine jj_aload_n 0 dd_Mo_step_19 rfl ?_
    refine jj_rS (n := 83) hS dd_Mo_step_20 ff_Mo_66 rfl (fun _ => rfl) rfl ?_
    refine jj_iload_n 1 dd_Mo_step_23 rfl ?_
    refine jj_aS hS dd_Mo_step_24 rfl (vp_in_nI (n := c) (by omega) (by decide)) (c) (nI_clamp (n := c) (by omega)) ?_
    refine jj_if_ne (tgt := 34) dd_Mo_step_25 (by decide) (fun h25 => ?_) (fun h25 => ?_)
    · skip
      refine jj_aload_n 0 dd_Mo_step_34 rfl ?_
      refine jj_rS (n := 83) hS dd_Mo_step_35 ff_Mo_66 rfl (fun _ => rfl) rfl ?_
      refine jj_iload_n 1 dd_Mo_step_38 rfl ?_
      refine jj_iconst (v := 2) dd_Mo_step_39 rfl ?_
      refine jj_asS hS dd_Mo_step_40 rfl (vp_in_nI (n := c) (by omega) (by decide)) (c) (nI_clamp (n := c) (by omega)) (fun M hS => ?_)
      replace hS : rp_ g M (F1, S.2) := by rw [← hF1]; exact hS
      rw [if_neg h25] at hQ
      rw [hF1] at hQ
      have hfi : fi_ F1 c ≤ 11 := fi_le F1 c 11 0
      unfold sq_ at hQ
      refine jj_aload_n 0 dd_Mo_step_41 rfl ?_
      refine jj_rS (n := 87) hS dd_Mo_step_42 ff_Mo_78 rfl (fun _ => rfl) rfl ?_
      refine jj_bipush (v := 12) dd_Mo_step_45 rfl ?_
      refine jj_iload_n 1 dd_Mo_step_47 rfl ?_
      refine jj_imul dd_Mo_step_48 ?_
      refine jj_ti (x' := nI (12 * c)) (pk_mul (12) (c)) ?_
      refine jj_aload_n 0 dd_Mo_step_49 rfl ?_
      refine jj_iload_n 1 dd_Mo_step_50 rfl ?_
      refine jj_callV (ci := 7) [_] [_, .ref (g 87)] 0 0 dd_Mo_step_51 cs_Mo_155 ci_Mo_155 (hS.1.1 60 _ rfl) ⟨by decide, rfl⟩ rfl (Nat.le_of_ble_eq_true rfl) ⟨(Nat.le_of_ble_eq_true rfl), (Nat.le_of_ble_eq_true rfl)⟩ ⟨(Nat.le_of_ble_eq_true rfl), (Nat.le_of_ble_eq_true rfl)⟩ rfl (cs_use (cs_Mo_first (S := (F1, S.2)) (c := c) hc (fun M hS => ?_)) hS)
      refine jj_iadd dd_Mo_step_54 ?_
      refine jj_ti (x' := nI ((12 * c) + (fi_ F1 c))) (nI_add (12 * c) (fi_ F1 c)) ?_
      refine jj_aS hS dd_Mo_step_55 rfl (vp_in_nI (n := (12 * c) + (fi_ F1 c)) (by omega) (by decide)) ((12 * c) + (fi_ F1 c)) (nI_clamp (n := (12 * c) + (fi_ F1 c)) (by omega)) ?_
      refine jj_if_ne (tgt := 67) dd_Mo_step_56 (by decide) (fun h56 => ?_) (fun h56 => ?_)
      · skip
        refine jj_aload_n 0 dd_Mo_step_67 rfl ?_
        refine jj_iload_n 1 dd_Mo_step_68 rfl ?_
        refine jj_iconst (v := 0) dd_Mo_step_69 rfl ?_
        refine jj_callV (ci := 7) [_, _] [] 0 0 dd_Mo_step_70 cs_Mo_161 ci_Mo_161 (hS.1.1 60 _ rfl) ⟨by decide, rfl⟩ rfl (Nat.le_of_ble_eq_true rfl) ⟨(Nat.le_of_ble_eq_true rfl), (Nat.le_of_ble_eq_true rfl)⟩ ⟨(Nat.le_of_ble_eq_true rfl), (Nat.le_of_ble_eq_true rfl)⟩ rfl (cs_use (cs_Mo_nextCell (S := (F1, S.2)) (c := c) hc (fun M hS => ?_)) hS)
        refine jj_istore_n (lv' := [(2, .int (nI (nx_ F1 c 0))), (0, .ref (g 60)), (1, .int (nI (c)))]) dd_Mo_step_73 (Nat.le_of_ble_eq_true rfl) rfl ?_
        refine jj_iload_n 0 dd_Mo_step_74 rfl ?_
        refine jj_bipush (v := 12) dd_Mo_step_75 rfl ?_
        refine jj_icmp_ge (tgt := 87) dd_Mo_step_77 (by decide) (fun h77 => ?_) (fun h77 => ?_)
        · skip
          refine jj_aload_n 1 dd_Mo_step_87 rfl ?_
          refine jj_rS (n := 85) hS dd_Mo_step_88 ff_Mo_72 rfl (fun _ => rfl) rfl ?_
          refine jj_iload_n 2 dd_Mo_step_91 rfl ?_
          refine jj_aS hS dd_Mo_step_92 rfl (vp_in_nI (n := c) (by omega) (by decide)) (c) (nI_clamp (n := c) (by omega)) ?_
          refine jj_if_ne (tgt := 108) dd_Mo_step_93 (by decide) (fun h93 => ?_) (fun h93 => ?_)
          · skip
            refine jj_aload_n 1 dd_Mo_step_108 rfl ?_
            refine jj_rS (n := 86) hS dd_Mo_step_109 ff_Mo_75 rfl (fun _ => rfl) rfl ?_
            refine jj_iload_n 2 dd_Mo_step_112 rfl ?_
            refine jj_zS hS dd_Mo_step_113 rfl (vp_in_nI (n := c) (by omega) (by decide)) (c) (nI_clamp (n := c) (by omega)) ?_
            refine jj_if_eq (tgt := 125) dd_Mo_step_114 (by decide) (fun h114 => ?_) (fun h114 => ?_)
            · skip
              refine jj_aload_n 1 dd_Mo_step_125 rfl ?_
              refine jj_iload_n 2 dd_Mo_step_126 rfl ?_
              rw [if_neg h56, if_pos h77, if_neg h93, if_pos h114] at hQ
              refine jj_callV (ci := 7) [_] [] 0 0 dd_Mo_step_127 cs_Mo_171 ci_Mo_171 (hS.1.1 60 _ rfl) ⟨by decide, rfl⟩ rfl (Nat.le_of_ble_eq_true rfl) ⟨(Nat.le_of_ble_eq_true rfl), (Nat.le_of_ble_eq_true rfl)⟩ ⟨(Nat.le_of_ble_eq_true rfl), (Nat.le_of_ble_eq_true rfl)⟩ rfl (cs_use (cs_Mo_decide (S := (F1, S.2)) hc hr hr2 (de_mono (fun r F2 hQ => ?_) hQ)) hS)
              intro M hS
              refine jj_iret dd_Mo_step_130 rfl rfl ?_
              exact ⟨_, hS, hQ⟩
            · skip
              refine jj_aload_n 1 dd_Mo_step_117 rfl ?_
              refine jj_iload_n 2 dd_Mo_step_118 rfl ?_
              rw [if_neg h56, if_pos h77, if_neg h93, if_neg h114] at hQ
              refine jj_callV (ci := 7) [_] [] 0 0 dd_Mo_step_119 cs_Mo_168 ci_Mo_168 (hS.1.1 60 _ rfl) ⟨by decide, rfl⟩ rfl (Nat.le_of_ble_eq_true rfl) ⟨(Nat.le_of_ble_eq_true rfl), (Nat.le_of_ble_eq_true rfl)⟩ ⟨(Nat.le_of_ble_eq_true rfl), (Nat.le_of_ble_eq_true rfl)⟩ rfl (cs_use (cs_Mo_follow (S := (F1, S.2)) hc (hn h114) hr hr2 (fo_mono (fun r F2 hQ => ?_) hQ)) hS)
              intro M hS
              refine jj_goto (tgt := 130) dd_Mo_step_122 (by decide) ?_
              refine jj_iret dd_Mo_step_130 rfl rfl ?_
              exact ⟨_, hS, hQ⟩
          · skip
            refine jj_aload_n 1 dd_Mo_step_96 rfl ?_
            refine jj_rS (n := 85) hS dd_Mo_step_97 ff_Mo_72 rfl (fun _ => rfl) rfl ?_
            refine jj_iload_n 2 dd_Mo_step_100 rfl ?_
            refine jj_aload_n 1 dd_Mo_step_101 rfl ?_
            refine jj_callV (ci := 7) [] [_, .ref (g 85)] 0 0 dd_Mo_step_102 cs_Mo_138 ci_Mo_138 (hS.1.1 60 _ rfl) ⟨by decide, rfl⟩ rfl (Nat.le_of_ble_eq_true rfl) ⟨(Nat.le_of_ble_eq_true rfl), (Nat.le_of_ble_eq_true rfl)⟩ ⟨(Nat.le_of_ble_eq_true rfl), (Nat.le_of_ble_eq_true rfl)⟩ rfl (cs_use (cs_Mo_handOut (fun M hS => ?_)) hS)
            refine jj_asS hS dd_Mo_step_105 rfl (vp_in_nI (n := c) (by omega) (by decide)) (c) (nI_clamp (n := c) (by omega)) (fun M hS => ?_)
            refine jj_iconst (v := 2) dd_Mo_step_106 rfl ?_
            refine jj_iret dd_Mo_step_107 rfl rfl ?_
            rw [if_neg h56, if_pos h77, if_pos h93] at hQ
            exact ⟨_, hS, hQ⟩
        · skip
          refine jj_aload_n 1 dd_Mo_step_80 rfl ?_
          refine jj_iload_n 2 dd_Mo_step_81 rfl ?_
          refine jj_iload_n 0 dd_Mo_step_82 rfl ?_
          rw [if_neg h56, if_neg h77] at hQ
          refine jj_callV (ci := 7) [_, _] [] 0 0 dd_Mo_step_83 cs_Mo_165 ci_Mo_165 (hS.1.1 60 _ rfl) ⟨by decide, rfl⟩ rfl (Nat.le_of_ble_eq_true rfl) ⟨(Nat.le_of_ble_eq_true rfl), (Nat.le_of_ble_eq_true rfl)⟩ ⟨(Nat.le_of_ble_eq_true rfl), (Nat.le_of_ble_eq_true rfl)⟩ rfl (cs_use (cs_Mo_prewrite (S := (F1, S.2)) hc (Nat.not_le.mp fun h => h77 (nI_le (a := 12) h (by have := nx_le F1 c 0 (fi_ F1 c) 12 0 (by omega); show nx_go F1 c 0 (fi_ F1 c) 12 0 < 2 ^ 31; omega))) hok hr hr2 (pw_mono (fun r F2 hQ => ?_) hQ)) hS)
          intro M hS
          refine jj_iret dd_Mo_step_86 rfl rfl ?_
          exact ⟨_, hS, hQ⟩
      · skip
        refine jj_aload_n 0 dd_Mo_step_59 rfl ?_
        refine jj_iload_n 1 dd_Mo_step_60 rfl ?_
        refine jj_bipush (v := 7) dd_Mo_step_61 rfl ?_
        refine jj_callV (ci := 7) [_, _] [] 0 0 dd_Mo_step_63 cs_Mo_158 ci_Mo_158 (hS.1.1 60 _ rfl) ⟨by decide, rfl⟩ rfl (Nat.le_of_ble_eq_true rfl) ⟨(Nat.le_of_ble_eq_true rfl), (Nat.le_of_ble_eq_true rfl)⟩ ⟨(Nat.le_of_ble_eq_true rfl), (Nat.le_of_ble_eq_true rfl)⟩ rfl (cs_use (cs_Mo_ends (c := c) hc (fun M hS => ?_)) hS)
        refine jj_iret dd_Mo_step_66 rfl rfl ?_
        rw [if_pos h56] at hQ
        exact ⟨_, hS, hQ⟩
    · skip
      refine jj_aload_n 0 dd_Mo_step_28 rfl ?_
      refine jj_iconst (v := 2) dd_Mo_step_29 rfl ?_
      refine jj_callV (ci := 7) [_] [] 0 0 dd_Mo_step_30 cs_Mo_134 ci_Mo_134 (hS.1.1 60 _ rfl) ⟨by decide, rfl⟩ rfl (Nat.le_of_ble_eq_true rfl) ⟨(Nat.le_of_ble_eq_true rfl), (Nat.le_of_ble_eq_true rfl)⟩ ⟨(Nat.le_of_ble_eq_true rfl), (Nat.le_of_ble_eq_true rfl)⟩ rfl (cs_use (cs_Mo_fails (fun M hS => ?_)) hS)
      refine jj_iret dd_Mo_step_33 rfl rfl ?_
      rw [if_pos h25] at hQ
      exact ⟨_, hS, hQ⟩
set_option maxRecDepth 20000 in
theorem cs_Mo_step0 {l : Launch} {g : Nat → Nat} {S : ss_} {Q : Option Value → ss_ → Prop} {x : Int32} {F : Nat → Nat → Int32} (hF : uf_ S.1 60 1 0 = F) (hx : x < 0 ∨ 3 < x) (hQ : Q (some (.int 0)) (uf_ F 60 1 1, S.2)) : cs_ l yy_Mo_step bb_Mo_step 3 (some .int) 4 0 0 g [.ref (g 60), .int x] S Q := by
  intro M hS
  refine ct_of (by decide) (Nat.le_of_ble_eq_true rfl) (fun G A => ?_)
  refine jj_aload_n 0 dd_Mo_step_0 rfl ?_
  refine jj_iconst (v := 0) dd_Mo_step_1 rfl ?_
  refine jj_pS hS dd_Mo_step_2 ⟨ff_Mo_93, rfl⟩ rfl (fun _ => rfl) ⟨rfl, rfl⟩ (fun M hS => ?_)
  rw [hF] at hS
  refine jj_aload_n 0 dd_Mo_step_5 rfl ?_
  refine jj_iload_n 1 dd_Mo_step_6 rfl ?_
  refine jj_callV (ci := 7) [_] [] 0 0 dd_Mo_step_7 cs_Mo_131 ci_Mo_131 (hS.1.1 60 _ rfl) ⟨by decide, rfl⟩ rfl (Nat.le_of_ble_eq_true rfl) ⟨(Nat.le_of_ble_eq_true rfl), (Nat.le_of_ble_eq_true rfl)⟩ ⟨(Nat.le_of_ble_eq_true rfl), (Nat.le_of_ble_eq_true rfl)⟩ rfl (ct_Mo_isClient (fun hb => ?_) (fun hb hb2 => ?_))
  · skip
    refine jj_if_ne (tgt := 19) dd_Mo_step_10 (by decide) (fun h => absurd h (by decide)) (fun _ => ?_)
    refine jj_aload_n 0 dd_Mo_step_13 rfl ?_
    refine jj_iconst (v := 1) dd_Mo_step_14 rfl ?_
    refine jj_callV (ci := 7) [_] [] 0 0 dd_Mo_step_15 cs_Mo_134 ci_Mo_134 (hS.1.1 60 _ rfl) ⟨by decide, rfl⟩ rfl (Nat.le_of_ble_eq_true rfl) ⟨(Nat.le_of_ble_eq_true rfl), (Nat.le_of_ble_eq_true rfl)⟩ ⟨(Nat.le_of_ble_eq_true rfl), (Nat.le_of_ble_eq_true rfl)⟩ rfl (cs_use (cs_Mo_fails (fun M hS => ?_)) hS)
    refine jj_iret dd_Mo_step_18 rfl rfl ?_
    exact ⟨_, hS, hQ⟩
  · skip
    exact absurd hx (fun h => h.elim hb hb2)
set_option maxRecDepth 20000 in
theorem cs_Mo_tablet {l : Launch} {g : Nat → Nat} {S : ss_} {Q : Option Value → ss_ → Prop} {t : Nat} {y : Int32} {F : Nat → Nat → Int32} (hF : uf_ S.1 60 1 0 = F) (ht : t < 3) (hy : ¬ y < 0) (hy2 : ¬ 2 < y) (hQ : tb_ F t y (fun r F => Q (some (.int r)) (F, S.2))) : cs_ l yy_Mo_tablet bb_Mo_tablet 3 (some .int) 1 0 0 g [.ref (g 60), .int (nI t), .int y] S Q := by
  intro M hS
  refine ct_of (by decide) (Nat.le_of_ble_eq_true rfl) (fun G A => ?_)
  unfold tb_ at hQ
  refine jj_aload_n 0 dd_Mo_tablet_0 rfl ?_
  refine jj_iconst (v := 0) dd_Mo_tablet_1 rfl ?_
  refine jj_pS hS dd_Mo_tablet_2 ⟨ff_Mo_93, rfl⟩ rfl (fun _ => rfl) ⟨rfl, rfl⟩ (fun M hS => ?_)
  rw [hF] at hS
  refine jj_iload_n 1 dd_Mo_tablet_5 rfl ?_
  refine jj_iconst (v := 0) dd_Mo_tablet_6 rfl ?_
  refine jj_iconst (v := 2) dd_Mo_tablet_7 rfl ?_
  refine jj_callS [_, _, _] [] 0 0 dd_Mo_tablet_8 cs_Mo_127 ci_Mo_127 rfl (Nat.le_of_ble_eq_true rfl) ⟨(Nat.le_of_ble_eq_true rfl), (Nat.le_of_ble_eq_true rfl)⟩ ⟨(Nat.le_of_ble_eq_true rfl), (Nat.le_of_ble_eq_true rfl)⟩ rfl (ct_Mo_in (fun hb => ?_) (fun hb hb2 => ?_))
  · skip
    exact absurd hb (nc_ (n := 2) (by decide) (by omega) (by decide))
  · skip
    refine jj_if_eq (tgt := 23) dd_Mo_tablet_11 (by decide) (fun h => absurd h (by decide)) (fun _ => ?_)
    refine jj_iload_n 2 dd_Mo_tablet_14 rfl ?_
    refine jj_iconst (v := 0) dd_Mo_tablet_15 rfl ?_
    refine jj_iconst (v := 2) dd_Mo_tablet_16 rfl ?_
    refine jj_callS [_, _, _] [] 0 0 dd_Mo_tablet_17 cs_Mo_127 ci_Mo_127 rfl (Nat.le_of_ble_eq_true rfl) ⟨(Nat.le_of_ble_eq_true rfl), (Nat.le_of_ble_eq_true rfl)⟩ ⟨(Nat.le_of_ble_eq_true rfl), (Nat.le_of_ble_eq_true rfl)⟩ rfl (ct_Mo_in (fun hb => ?_) (fun hb hb2 => ?_))
    · skip
      exact absurd hb (fun h => h.elim hy hy2)
    · skip
      refine jj_if_ne (tgt := 25) dd_Mo_tablet_20 (by decide) (fun _ => ?_) (fun h => absurd h (by decide))
      refine jj_iload_n 2 dd_Mo_tablet_25 rfl ?_
      refine jj_if_ne (tgt := 38) dd_Mo_tablet_26 (by decide) (fun h26 => ?_) (fun h26 => ?_)
      · skip
        refine jj_iload_n 2 dd_Mo_tablet_38 rfl ?_
        refine jj_iconst (v := 2) dd_Mo_tablet_39 rfl ?_
        refine jj_icmp_ne (tgt := 52) dd_Mo_tablet_40 (by decide) (fun h40 => ?_) (fun h40 => ?_)
        · skip
          refine jj_aload_n 0 dd_Mo_tablet_52 rfl ?_
          refine jj_rS (n := 77) hS dd_Mo_tablet_53 ff_Mo_47 rfl (fun _ => rfl) rfl ?_
          refine jj_iload_n 1 dd_Mo_tablet_56 rfl ?_
          refine jj_zS hS dd_Mo_tablet_57 rfl (vp_in_nI (n := t) (by omega) (by decide)) (t) (nI_clamp (n := t) (by omega)) ?_
          refine jj_if_eq (tgt := 65) dd_Mo_tablet_58 (by decide) (fun h58 => ?_) (fun h58 => ?_)
          · skip
            refine jj_aload_n 0 dd_Mo_tablet_65 rfl ?_
            refine jj_rS (n := 78) hS dd_Mo_tablet_66 ff_Mo_51 rfl (fun _ => rfl) rfl ?_
            refine jj_iload_n 1 dd_Mo_tablet_69 rfl ?_
            refine jj_aS hS dd_Mo_tablet_70 rfl (vp_in_nI (n := t) (by omega) (by decide)) (t) (nI_clamp (n := t) (by omega)) ?_
            refine jj_iret dd_Mo_tablet_71 rfl rfl ?_
            rw [if_neg h26, if_neg h40, if_pos h58] at hQ
            exact ⟨_, hS, hQ⟩
          · skip
            refine jj_iconst (v := (-1)) dd_Mo_tablet_61 rfl ?_
            refine jj_goto (tgt := 71) dd_Mo_tablet_62 (by decide) ?_
            refine jj_iret dd_Mo_tablet_71 rfl rfl ?_
            rw [if_neg h26, if_neg h40, if_neg h58] at hQ
            exact ⟨_, hS, hQ⟩
        · skip
          refine jj_aload_n 0 dd_Mo_tablet_43 rfl ?_
          refine jj_rS (n := 80) hS dd_Mo_tablet_44 ff_Mo_57 rfl (fun _ => rfl) rfl ?_
          refine jj_iload_n 1 dd_Mo_tablet_47 rfl ?_
          refine jj_aS hS dd_Mo_tablet_48 rfl (vp_in_nI (n := t) (by omega) (by decide)) (t) (nI_clamp (n := t) (by omega)) ?_
          refine jj_goto (tgt := 71) dd_Mo_tablet_49 (by decide) ?_
          refine jj_iret dd_Mo_tablet_71 rfl rfl ?_
          rw [if_neg h26, if_pos h40] at hQ
          exact ⟨_, hS, hQ⟩
      · skip
        refine jj_aload_n 0 dd_Mo_tablet_29 rfl ?_
        refine jj_rS (n := 79) hS dd_Mo_tablet_30 ff_Mo_54 rfl (fun _ => rfl) rfl ?_
        refine jj_iload_n 1 dd_Mo_tablet_33 rfl ?_
        refine jj_aS hS dd_Mo_tablet_34 rfl (vp_in_nI (n := t) (by omega) (by decide)) (t) (nI_clamp (n := t) (by omega)) ?_
        refine jj_goto (tgt := 71) dd_Mo_tablet_35 (by decide) ?_
        refine jj_iret dd_Mo_tablet_71 rfl rfl ?_
        rw [if_pos h26] at hQ
        exact ⟨_, hS, hQ⟩
set_option maxRecDepth 20000 in
theorem cs_Mo_tablet0 {l : Launch} {g : Nat → Nat} {S : ss_} {Q : Option Value → ss_ → Prop} {u v : Int32} {F : Nat → Nat → Int32} (hF : uf_ S.1 60 1 0 = F) (hx : (u < 0 ∨ 2 < u) ∨ (v < 0 ∨ 2 < v)) (hQ : Q (some (.int (-1))) (F, S.2)) : cs_ l yy_Mo_tablet bb_Mo_tablet 3 (some .int) 1 0 0 g [.ref (g 60), .int u, .int v] S Q := by
  intro M hS
  refine ct_of (by decide) (Nat.le_of_ble_eq_true rfl) (fun G A => ?_)
  refine jj_aload_n 0 dd_Mo_tablet_0 rfl ?_
  refine jj_iconst (v := 0) dd_Mo_tablet_1 rfl ?_
  refine jj_pS hS dd_Mo_tablet_2 ⟨ff_Mo_93, rfl⟩ rfl (fun _ => rfl) ⟨rfl, rfl⟩ (fun M hS => ?_)
  rw [hF] at hS
  refine jj_iload_n 1 dd_Mo_tablet_5 rfl ?_
  refine jj_iconst (v := 0) dd_Mo_tablet_6 rfl ?_
  refine jj_iconst (v := 2) dd_Mo_tablet_7 rfl ?_
  refine jj_callS [_, _, _] [] 0 0 dd_Mo_tablet_8 cs_Mo_127 ci_Mo_127 rfl (Nat.le_of_ble_eq_true rfl) ⟨(Nat.le_of_ble_eq_true rfl), (Nat.le_of_ble_eq_true rfl)⟩ ⟨(Nat.le_of_ble_eq_true rfl), (Nat.le_of_ble_eq_true rfl)⟩ rfl (ct_Mo_in (fun hb => ?_) (fun hb hb2 => ?_))
  · skip
    refine jj_if_eq (tgt := 23) dd_Mo_tablet_11 (by decide) (fun _ => ?_) (fun h => absurd h (by decide))
    refine jj_iconst (v := (-1)) dd_Mo_tablet_23 rfl ?_
    refine jj_iret dd_Mo_tablet_24 rfl rfl ?_
    exact ⟨_, hS, hQ⟩
  · skip
    have hv := hx.resolve_left (fun h => h.elim hb hb2)
    refine jj_if_eq (tgt := 23) dd_Mo_tablet_11 (by decide) (fun h => absurd h (by decide)) (fun _ => ?_)
    refine jj_iload_n 2 dd_Mo_tablet_14 rfl ?_
    refine jj_iconst (v := 0) dd_Mo_tablet_15 rfl ?_
    refine jj_iconst (v := 2) dd_Mo_tablet_16 rfl ?_
    refine jj_callS [_, _, _] [] 0 0 dd_Mo_tablet_17 cs_Mo_127 ci_Mo_127 rfl (Nat.le_of_ble_eq_true rfl) ⟨(Nat.le_of_ble_eq_true rfl), (Nat.le_of_ble_eq_true rfl)⟩ ⟨(Nat.le_of_ble_eq_true rfl), (Nat.le_of_ble_eq_true rfl)⟩ rfl (ct_Mo_in (fun hb => ?_) (fun hb hb2 => ?_))
    · skip
      refine jj_if_ne (tgt := 25) dd_Mo_tablet_20 (by decide) (fun h => absurd h (by decide)) (fun _ => ?_)
      refine jj_iconst (v := (-1)) dd_Mo_tablet_23 rfl ?_
      refine jj_iret dd_Mo_tablet_24 rfl rfl ?_
      exact ⟨_, hS, hQ⟩
    · skip
      exact absurd hv (fun h => h.elim hb hb2)
set_option maxRecDepth 20000 in
theorem cs_Mo_oracle {l : Launch} {g : Nat → Nat} {S : ss_} {Q : Option Value → ss_ → Prop} {y : Int32} {F : Nat → Nat → Int32} (hF : uf_ S.1 60 1 0 = F) (hQ : oc_ F y (fun r F => Q (some (.int r)) (F, S.2))) : cs_ l yy_Mo_oracle bb_Mo_oracle 2 (some .int) 0 0 0 g [.ref (g 60), .int y] S Q := by
  intro M hS
  refine ct_of (by decide) (Nat.le_of_ble_eq_true rfl) (fun G A => ?_)
  unfold oc_ at hQ
  refine jj_aload_n 0 dd_Mo_oracle_0 rfl ?_
  refine jj_iconst (v := 0) dd_Mo_oracle_1 rfl ?_
  refine jj_pS hS dd_Mo_oracle_2 ⟨ff_Mo_93, rfl⟩ rfl (fun _ => rfl) ⟨rfl, rfl⟩ (fun M hS => ?_)
  rw [hF] at hS
  refine jj_iload_n 1 dd_Mo_oracle_5 rfl ?_
  refine jj_if_ne (tgt := 16) dd_Mo_oracle_6 (by decide) (fun h6 => ?_) (fun h6 => ?_)
  · skip
    refine jj_iload_n 1 dd_Mo_oracle_16 rfl ?_
    refine jj_iconst (v := 1) dd_Mo_oracle_17 rfl ?_
    refine jj_icmp_ne (tgt := 28) dd_Mo_oracle_18 (by decide) (fun h18 => ?_) (fun h18 => ?_)
    · skip
      refine jj_iload_n 1 dd_Mo_oracle_28 rfl ?_
      refine jj_iconst (v := 2) dd_Mo_oracle_29 rfl ?_
      refine jj_icmp_ne (tgt := 40) dd_Mo_oracle_30 (by decide) (fun h30 => ?_) (fun h30 => ?_)
      · skip
        refine jj_iconst (v := (-1)) dd_Mo_oracle_40 rfl ?_
        refine jj_iret dd_Mo_oracle_41 rfl rfl ?_
        rw [if_neg h6, if_neg h18, if_neg h30] at hQ
        exact ⟨_, hS, hQ⟩
      · skip
        refine jj_aload_n 0 dd_Mo_oracle_33 rfl ?_
        refine jj_gS hS dd_Mo_oracle_34 ff_Mo_110 rfl (fun _ => rfl) ?_
        refine jj_goto (tgt := 41) dd_Mo_oracle_37 (by decide) ?_
        refine jj_iret dd_Mo_oracle_41 rfl rfl ?_
        rw [if_neg h6, if_neg h18, if_pos h30] at hQ
        exact ⟨_, hS, hQ⟩
    · skip
      refine jj_aload_n 0 dd_Mo_oracle_21 rfl ?_
      refine jj_gS hS dd_Mo_oracle_22 ff_Mo_96 rfl (fun _ => rfl) ?_
      refine jj_goto (tgt := 41) dd_Mo_oracle_25 (by decide) ?_
      refine jj_iret dd_Mo_oracle_41 rfl rfl ?_
      rw [if_neg h6, if_pos h18] at hQ
      exact ⟨_, hS, hQ⟩
  · skip
    refine jj_aload_n 0 dd_Mo_oracle_9 rfl ?_
    refine jj_gS hS dd_Mo_oracle_10 ff_Mo_7 rfl (fun _ => rfl) ?_
    refine jj_goto (tgt := 41) dd_Mo_oracle_13 (by decide) ?_
    refine jj_iret dd_Mo_oracle_41 rfl rfl ?_
    rw [if_pos h6] at hQ
    exact ⟨_, hS, hQ⟩
set_option maxRecDepth 20000 in
theorem cs_Mo_lock {l : Launch} {g : Nat → Nat} {S : ss_} {Q : Option Value → ss_ → Prop} {i : Nat} {y : Int32} {F : Nat → Nat → Int32} (hF : uf_ S.1 60 1 0 = F) (hi : i < 12) (hok : ok_ F) (hy : ¬ y < 0) (hy2 : ¬ 5 < y) (hQ : lk_ F i y (fun r F => Q (some (.int r)) (F, S.2))) : cs_ l yy_Mo_lock bb_Mo_lock 4 (some .int) 2 0 0 g [.ref (g 60), .int (nI i), .int y] S Q := by
  intro M hS
  refine ct_of (by decide) (Nat.le_of_ble_eq_true rfl) (fun G A => ?_)
  unfold lk_ at hQ
  refine jj_aload_n 0 dd_Mo_lock_0 rfl ?_
  refine jj_iconst (v := 0) dd_Mo_lock_1 rfl ?_
  refine jj_pS hS dd_Mo_lock_2 ⟨ff_Mo_93, rfl⟩ rfl (fun _ => rfl) ⟨rfl, rfl⟩ (fun M hS => ?_)
  rw [hF] at hS
  refine jj_iload_n 1 dd_Mo_lock_5 rfl ?_
  refine jj_callS [_] [] 0 0 dd_Mo_lock_6 cs_Mo_142 ci_Mo_142 rfl (Nat.le_of_ble_eq_true rfl) ⟨(Nat.le_of_ble_eq_true rfl), (Nat.le_of_ble_eq_true rfl)⟩ ⟨(Nat.le_of_ble_eq_true rfl), (Nat.le_of_ble_eq_true rfl)⟩ rfl (ct_Mo_isCell (fun hb => ?_) (fun hb hb2 => ?_))
  · skip
    exact absurd hb (nc_ (n := 11) (by decide) (by omega) (by decide))
  · skip
    refine jj_if_eq (tgt := 41) dd_Mo_lock_9 (by decide) (fun h => absurd h (by decide)) (fun _ => ?_)
    refine jj_iload_n 2 dd_Mo_lock_12 rfl ?_
    refine jj_iconst (v := 0) dd_Mo_lock_13 rfl ?_
    refine jj_iconst (v := 5) dd_Mo_lock_14 rfl ?_
    refine jj_callS [_, _, _] [] 0 0 dd_Mo_lock_15 cs_Mo_127 ci_Mo_127 rfl (Nat.le_of_ble_eq_true rfl) ⟨(Nat.le_of_ble_eq_true rfl), (Nat.le_of_ble_eq_true rfl)⟩ ⟨(Nat.le_of_ble_eq_true rfl), (Nat.le_of_ble_eq_true rfl)⟩ rfl (ct_Mo_in (fun hb => ?_) (fun hb hb2 => ?_))
    · skip
      exact absurd hb (fun h => h.elim hy hy2)
    · skip
      refine jj_if_eq (tgt := 41) dd_Mo_lock_18 (by decide) (fun h => absurd h (by decide)) (fun _ => ?_)
      refine jj_aload_n 0 dd_Mo_lock_21 rfl ?_
      refine jj_rS (n := 65) hS dd_Mo_lock_22 ff_Mo_13 rfl (fun _ => rfl) rfl ?_
      refine jj_iload_n 1 dd_Mo_lock_25 rfl ?_
      refine jj_aS hS dd_Mo_lock_26 rfl (vp_in_nI (n := i) (by omega) (by decide)) (i) (nI_clamp (n := i) (by omega)) ?_
      refine jj_if_eq (tgt := 41) dd_Mo_lock_27 (by decide) (fun h27 => ?_) (fun h27 => ?_)
      · skip
        refine jj_iconst (v := (-1)) dd_Mo_lock_41 rfl ?_
        refine jj_iret dd_Mo_lock_42 rfl rfl ?_
        rw [if_pos h27] at hQ
        exact ⟨_, hS, hQ⟩
      · skip
        refine jj_aload_n 0 dd_Mo_lock_30 rfl ?_
        refine jj_rS (n := 77) hS dd_Mo_lock_31 ff_Mo_47 rfl (fun _ => rfl) rfl ?_
        refine jj_iload_n 1 dd_Mo_lock_34 rfl ?_
        refine jj_iconst (v := 4) dd_Mo_lock_35 rfl ?_
        refine jj_idiv dd_Mo_lock_36 (by decide) ?_
        refine jj_ti (x' := nI ((i) / 4)) (pk_div (a := i) (d := 4) (by omega) (by decide) (by decide)) ?_
        refine jj_zS hS dd_Mo_lock_37 rfl (vp_in_nI (n := (i) / 4) (by omega) (by decide)) ((i) / 4) (nI_clamp (n := (i) / 4) (by omega)) ?_
        refine jj_if_eq (tgt := 43) dd_Mo_lock_38 (by decide) (fun h38 => ?_) (fun h38 => ?_)
        · skip
          refine jj_aload_n 0 dd_Mo_lock_43 rfl ?_
          refine jj_iload_n 1 dd_Mo_lock_44 rfl ?_
          refine jj_callV (ci := 7) [_] [] 0 0 dd_Mo_lock_45 cs_Mo_121 ci_Mo_121 (hS.1.1 60 _ rfl) ⟨by decide, rfl⟩ rfl (Nat.le_of_ble_eq_true rfl) ⟨(Nat.le_of_ble_eq_true rfl), (Nat.le_of_ble_eq_true rfl)⟩ ⟨(Nat.le_of_ble_eq_true rfl), (Nat.le_of_ble_eq_true rfl)⟩ rfl (cs_use (cs_Mo_loose (S := (F, S.2)) (i := i) (c := on_ F i) hi (hok.2 i hi).1 (hok.2 i hi).2 (fun M hS => ?_)) hS)
          refine jj_istore_n (lv' := [(3, .int _), (0, .ref (g 60)), (1, .int (nI (i))), (2, .int (y))]) dd_Mo_lock_48 (Nat.le_of_ble_eq_true rfl) rfl ?_
          refine jj_iload_n 3 dd_Mo_lock_49 rfl ?_
          refine jj_iconst (v := 3) dd_Mo_lock_50 rfl ?_
          refine jj_icmp_ge (tgt := 88) dd_Mo_lock_51 (by decide) (fun h51 => ?_) (fun h51 => ?_)
          · skip
            refine jj_iload_n 3 dd_Mo_lock_88 rfl ?_
            refine jj_iconst (v := 3) dd_Mo_lock_89 rfl ?_
            refine jj_icmp_ne (tgt := 102) dd_Mo_lock_90 (by decide) (fun h90 => ?_) (fun h90 => ?_)
            · skip
              refine jj_iload_n 3 dd_Mo_lock_102 rfl ?_
              refine jj_iconst (v := 4) dd_Mo_lock_103 rfl ?_
              refine jj_icmp_ne (tgt := 119) dd_Mo_lock_104 (by decide) (fun h104 => ?_) (fun h104 => ?_)
              · skip
                refine jj_aload_n 1 dd_Mo_lock_119 rfl ?_
                refine jj_rS (n := 69) hS dd_Mo_lock_120 ff_Mo_26 rfl (fun _ => rfl) rfl ?_
                refine jj_iload_n 2 dd_Mo_lock_123 rfl ?_
                refine jj_aS hS dd_Mo_lock_124 rfl (vp_in_nI (n := i) (by omega) (by decide)) (i) (nI_clamp (n := i) (by omega)) ?_
                refine jj_iconst (v := 1) dd_Mo_lock_125 rfl ?_
                refine jj_icmp_ne (tgt := 138) dd_Mo_lock_126 (by decide) (fun h126 => ?_) (fun h126 => ?_)
                · skip
                  refine jj_iconst (v := 0) dd_Mo_lock_138 rfl ?_
                  refine jj_iret dd_Mo_lock_139 rfl rfl ?_
                  rw [if_neg h27, if_pos h38, if_pos h51, if_neg h90, if_neg h104, if_neg h126] at hQ
                  exact ⟨_, hS, hQ⟩
                · skip
                  refine jj_aload_n 1 dd_Mo_lock_129 rfl ?_
                  refine jj_rS (n := 70) hS dd_Mo_lock_130 ff_Mo_29 rfl (fun _ => rfl) rfl ?_
                  refine jj_iload_n 2 dd_Mo_lock_133 rfl ?_
                  refine jj_aS hS dd_Mo_lock_134 rfl (vp_in_nI (n := i) (by omega) (by decide)) (i) (nI_clamp (n := i) (by omega)) ?_
                  refine jj_goto (tgt := 139) dd_Mo_lock_135 (by decide) ?_
                  refine jj_iret dd_Mo_lock_139 rfl rfl ?_
                  rw [if_neg h27, if_pos h38, if_pos h51, if_neg h90, if_neg h104, if_pos h126] at hQ
                  exact ⟨_, hS, hQ⟩
              · skip
                refine jj_iload_n 0 dd_Mo_lock_107 rfl ?_
                refine jj_if_eq (tgt := 115) dd_Mo_lock_108 (by decide) (fun h108 => ?_) (fun h108 => ?_)
                · skip
                  refine jj_iconst (v := 0) dd_Mo_lock_115 rfl ?_
                  refine jj_goto (tgt := 139) dd_Mo_lock_116 (by decide) ?_
                  refine jj_iret dd_Mo_lock_139 rfl rfl ?_
                  rw [if_neg h27, if_pos h38, if_pos h51, if_neg h90, if_pos h104, if_pos h108] at hQ
                  exact ⟨_, hS, hQ⟩
                · skip
                  refine jj_iconst (v := 1) dd_Mo_lock_111 rfl ?_
                  refine jj_goto (tgt := 139) dd_Mo_lock_112 (by decide) ?_
                  refine jj_iret dd_Mo_lock_139 rfl rfl ?_
                  rw [if_neg h27, if_pos h38, if_pos h51, if_neg h90, if_pos h104, if_neg h108] at hQ
                  exact ⟨_, hS, hQ⟩
            · skip
              refine jj_aload_n 1 dd_Mo_lock_93 rfl ?_
              refine jj_rS (n := 68) hS dd_Mo_lock_94 ff_Mo_23 rfl (fun _ => rfl) rfl ?_
              refine jj_iload_n 2 dd_Mo_lock_97 rfl ?_
              refine jj_aS hS dd_Mo_lock_98 rfl (vp_in_nI (n := i) (by omega) (by decide)) (i) (nI_clamp (n := i) (by omega)) ?_
              refine jj_goto (tgt := 139) dd_Mo_lock_99 (by decide) ?_
              refine jj_iret dd_Mo_lock_139 rfl rfl ?_
              rw [if_neg h27, if_pos h38, if_pos h51, if_pos h90] at hQ
              exact ⟨_, hS, hQ⟩
          · skip
            refine jj_iload_n 3 dd_Mo_lock_54 rfl ?_
            refine jj_if_ne (tgt := 67) dd_Mo_lock_55 (by decide) (fun h55 => ?_) (fun h55 => ?_)
            · skip
              refine jj_iload_n 3 dd_Mo_lock_67 rfl ?_
              refine jj_iconst (v := 1) dd_Mo_lock_68 rfl ?_
              refine jj_icmp_ne (tgt := 81) dd_Mo_lock_69 (by decide) (fun h69 => ?_) (fun h69 => ?_)
              · skip
                refine jj_aload_n 1 dd_Mo_lock_81 rfl ?_
                refine jj_rS (n := 67) hS dd_Mo_lock_82 ff_Mo_20 rfl (fun _ => rfl) rfl ?_
                refine jj_iload_n 2 dd_Mo_lock_85 rfl ?_
                refine jj_aS hS dd_Mo_lock_86 rfl (vp_in_nI (n := i) (by omega) (by decide)) (i) (nI_clamp (n := i) (by omega)) ?_
                refine jj_iret dd_Mo_lock_87 rfl rfl ?_
                rw [if_neg h27, if_pos h38, if_neg h51, if_neg h55, if_neg h69] at hQ
                exact ⟨_, hS, hQ⟩
              · skip
                refine jj_aload_n 1 dd_Mo_lock_72 rfl ?_
                refine jj_rS (n := 66) hS dd_Mo_lock_73 ff_Mo_17 rfl (fun _ => rfl) rfl ?_
                refine jj_iload_n 2 dd_Mo_lock_76 rfl ?_
                refine jj_aS hS dd_Mo_lock_77 rfl (vp_in_nI (n := i) (by omega) (by decide)) (i) (nI_clamp (n := i) (by omega)) ?_
                refine jj_goto (tgt := 87) dd_Mo_lock_78 (by decide) ?_
                refine jj_iret dd_Mo_lock_87 rfl rfl ?_
                rw [if_neg h27, if_pos h38, if_neg h51, if_neg h55, if_pos h69] at hQ
                exact ⟨_, hS, hQ⟩
            · skip
              refine jj_aload_n 1 dd_Mo_lock_58 rfl ?_
              refine jj_rS (n := 65) hS dd_Mo_lock_59 ff_Mo_13 rfl (fun _ => rfl) rfl ?_
              refine jj_iload_n 2 dd_Mo_lock_62 rfl ?_
              refine jj_aS hS dd_Mo_lock_63 rfl (vp_in_nI (n := i) (by omega) (by decide)) (i) (nI_clamp (n := i) (by omega)) ?_
              refine jj_goto (tgt := 87) dd_Mo_lock_64 (by decide) ?_
              refine jj_iret dd_Mo_lock_87 rfl rfl ?_
              rw [if_neg h27, if_pos h38, if_neg h51, if_pos h55] at hQ
              exact ⟨_, hS, hQ⟩
        · skip
          refine jj_iconst (v := (-1)) dd_Mo_lock_41 rfl ?_
          refine jj_iret dd_Mo_lock_42 rfl rfl ?_
          rw [if_neg h27, if_neg h38] at hQ
          exact ⟨_, hS, hQ⟩
set_option maxRecDepth 20000 in
theorem cs_Mo_lock0 {l : Launch} {g : Nat → Nat} {S : ss_} {Q : Option Value → ss_ → Prop} {u v : Int32} {F : Nat → Nat → Int32} (hF : uf_ S.1 60 1 0 = F) (hx : (u < 0 ∨ 11 < u) ∨ (v < 0 ∨ 5 < v)) (hQ : Q (some (.int (-1))) (F, S.2)) : cs_ l yy_Mo_lock bb_Mo_lock 4 (some .int) 2 0 0 g [.ref (g 60), .int u, .int v] S Q := by
  intro M hS
  refine ct_of (by decide) (Nat.le_of_ble_eq_true rfl) (fun G A => ?_)
  refine jj_aload_n 0 dd_Mo_lock_0 rfl ?_
  refine jj_iconst (v := 0) dd_Mo_lock_1 rfl ?_
  refine jj_pS hS dd_Mo_lock_2 ⟨ff_Mo_93, rfl⟩ rfl (fun _ => rfl) ⟨rfl, rfl⟩ (fun M hS => ?_)
  rw [hF] at hS
  refine jj_iload_n 1 dd_Mo_lock_5 rfl ?_
  refine jj_callS [_] [] 0 0 dd_Mo_lock_6 cs_Mo_142 ci_Mo_142 rfl (Nat.le_of_ble_eq_true rfl) ⟨(Nat.le_of_ble_eq_true rfl), (Nat.le_of_ble_eq_true rfl)⟩ ⟨(Nat.le_of_ble_eq_true rfl), (Nat.le_of_ble_eq_true rfl)⟩ rfl (ct_Mo_isCell (fun hb => ?_) (fun hb hb2 => ?_))
  · skip
    refine jj_if_eq (tgt := 41) dd_Mo_lock_9 (by decide) (fun _ => ?_) (fun h => absurd h (by decide))
    refine jj_iconst (v := (-1)) dd_Mo_lock_41 rfl ?_
    refine jj_iret dd_Mo_lock_42 rfl rfl ?_
    exact ⟨_, hS, hQ⟩
  · skip
    have hv := hx.resolve_left (fun h => h.elim hb hb2)
    refine jj_if_eq (tgt := 41) dd_Mo_lock_9 (by decide) (fun h => absurd h (by decide)) (fun _ => ?_)
    refine jj_iload_n 2 dd_Mo_lock_12 rfl ?_
    refine jj_iconst (v := 0) dd_Mo_lock_13 rfl ?_
    refine jj_iconst (v := 5) dd_Mo_lock_14 rfl ?_
    refine jj_callS [_, _, _] [] 0 0 dd_Mo_lock_15 cs_Mo_127 ci_Mo_127 rfl (Nat.le_of_ble_eq_true rfl) ⟨(Nat.le_of_ble_eq_true rfl), (Nat.le_of_ble_eq_true rfl)⟩ ⟨(Nat.le_of_ble_eq_true rfl), (Nat.le_of_ble_eq_true rfl)⟩ rfl (ct_Mo_in (fun hb => ?_) (fun hb hb2 => ?_))
    · skip
      refine jj_if_eq (tgt := 41) dd_Mo_lock_18 (by decide) (fun _ => ?_) (fun h => absurd h (by decide))
      refine jj_iconst (v := (-1)) dd_Mo_lock_41 rfl ?_
      refine jj_iret dd_Mo_lock_42 rfl rfl ?_
      exact ⟨_, hS, hQ⟩
    · skip
      exact absurd hv (fun h => h.elim hb hb2)
set_option maxRecDepth 20000 in
theorem cs_Mo_transaction {l : Launch} {g : Nat → Nat} {S : ss_} {Q : Option Value → ss_ → Prop} {c : Nat} {y : Int32} {F : Nat → Nat → Int32} (hF : uf_ S.1 60 1 0 = F) (hc : c < 4) (hy : ¬ y < 0) (hy2 : ¬ 5 < y) (hQ : if F 83 c = 0 then Q (some (.int 0)) (F, S.2) else ta_ F c y (tr_go F c y 12 0 0) (fun r F => Q (some (.int r)) (F, S.2))) : cs_ l yy_Mo_transaction bb_Mo_transaction 6 (some .int) 2 0 0 g [.ref (g 60), .int (nI c), .int y] S Q := by
  intro M hS
  refine ct_of (by decide) (Nat.le_of_ble_eq_true rfl) (fun G A => ?_)
  have loop : ∀ (n k : Nat) (z : Int32) (M : mm_M), k + n = 12 → rp_ g M (F, S.2) → ta_ F c y (tr_go F c y n k z) (fun r F => Q (some (.int r)) (F, S.2)) → jj_ l yy_Mo_transaction bb_Mo_transaction 6 (some .int) G (mm_R 2 0 0) A (mm_ret (qs_ g Q)) 0 0 40 [(4, .int (nI (k))), (3, .int (z)), (0, .ref (g 60)), (1, .int (nI (c))), (2, .int (y))] [] M := by
    intro n
    induction n with
    | zero =>
      intro k z M hk hS hQ
      have hk : k = 12 := by omega
      subst hk
      refine jj_iload 0 dd_Mo_transaction_40 rfl ?_
      refine jj_bipush (v := 12) dd_Mo_transaction_42 rfl ?_
      refine jj_icmp_ge (tgt := 97) dd_Mo_transaction_44 (by decide) (fun h44 => ?_) (fun h44 => ?_)
      · skip
        unfold ta_ tr_go at hQ
        skip
        refine jj_iload_n 4 dd_Mo_transaction_97 rfl ?_
        refine jj_if_ne (tgt := 110) dd_Mo_transaction_98 (by decide) (fun h98 => ?_) (fun h98 => ?_)
        · skip
          refine jj_iload_n 4 dd_Mo_transaction_110 rfl ?_
          refine jj_iconst (v := 1) dd_Mo_transaction_111 rfl ?_
          refine jj_icmp_ne (tgt := 124) dd_Mo_transaction_112 (by decide) (fun h112 => ?_) (fun h112 => ?_)
          · skip
            refine jj_iload_n 4 dd_Mo_transaction_124 rfl ?_
            refine jj_iconst (v := 2) dd_Mo_transaction_125 rfl ?_
            refine jj_icmp_ne (tgt := 138) dd_Mo_transaction_126 (by decide) (fun h126 => ?_) (fun h126 => ?_)
            · skip
              refine jj_iload_n 4 dd_Mo_transaction_138 rfl ?_
              refine jj_iconst (v := 5) dd_Mo_transaction_139 rfl ?_
              refine jj_icmp_ge (tgt := 147) dd_Mo_transaction_140 (by decide) (fun h140 => ?_) (fun h140 => ?_)
              · skip
                refine jj_aload_n 2 dd_Mo_transaction_147 rfl ?_
                refine jj_rS (n := 86) hS dd_Mo_transaction_148 ff_Mo_75 rfl (fun _ => rfl) rfl ?_
                refine jj_iload_n 3 dd_Mo_transaction_151 rfl ?_
                refine jj_zS hS dd_Mo_transaction_152 rfl (vp_in_nI (n := c) (by omega) (by decide)) (c) (nI_clamp (n := c) (by omega)) ?_
                refine jj_if_eq (tgt := 160) dd_Mo_transaction_153 (by decide) (fun h153 => ?_) (fun h153 => ?_)
                · skip
                  refine jj_iconst (v := 0) dd_Mo_transaction_160 rfl ?_
                  refine jj_iret dd_Mo_transaction_161 rfl rfl ?_
                  rw [if_neg h98, if_neg h112, if_neg h126, if_pos h140, if_pos h153] at hQ
                  exact ⟨_, hS, hQ⟩
                · skip
                  refine jj_iconst (v := 1) dd_Mo_transaction_156 rfl ?_
                  refine jj_goto (tgt := 161) dd_Mo_transaction_157 (by decide) ?_
                  refine jj_iret dd_Mo_transaction_161 rfl rfl ?_
                  rw [if_neg h98, if_neg h112, if_neg h126, if_pos h140, if_neg h153] at hQ
                  exact ⟨_, hS, hQ⟩
              · skip
                refine jj_iload_n 1 dd_Mo_transaction_143 rfl ?_
                refine jj_goto (tgt := 161) dd_Mo_transaction_144 (by decide) ?_
                refine jj_iret dd_Mo_transaction_161 rfl rfl ?_
                rw [if_neg h98, if_neg h112, if_neg h126, if_neg h140] at hQ
                exact ⟨_, hS, hQ⟩
            · skip
              refine jj_aload_n 2 dd_Mo_transaction_129 rfl ?_
              refine jj_rS (n := 85) hS dd_Mo_transaction_130 ff_Mo_72 rfl (fun _ => rfl) rfl ?_
              refine jj_iload_n 3 dd_Mo_transaction_133 rfl ?_
              refine jj_aS hS dd_Mo_transaction_134 rfl (vp_in_nI (n := c) (by omega) (by decide)) (c) (nI_clamp (n := c) (by omega)) ?_
              refine jj_goto (tgt := 161) dd_Mo_transaction_135 (by decide) ?_
              refine jj_iret dd_Mo_transaction_161 rfl rfl ?_
              rw [if_neg h98, if_neg h112, if_pos h126] at hQ
              exact ⟨_, hS, hQ⟩
          · skip
            refine jj_aload_n 2 dd_Mo_transaction_115 rfl ?_
            refine jj_rS (n := 84) hS dd_Mo_transaction_116 ff_Mo_69 rfl (fun _ => rfl) rfl ?_
            refine jj_iload_n 3 dd_Mo_transaction_119 rfl ?_
            refine jj_aS hS dd_Mo_transaction_120 rfl (vp_in_nI (n := c) (by omega) (by decide)) (c) (nI_clamp (n := c) (by omega)) ?_
            refine jj_goto (tgt := 161) dd_Mo_transaction_121 (by decide) ?_
            refine jj_iret dd_Mo_transaction_161 rfl rfl ?_
            rw [if_neg h98, if_pos h112] at hQ
            exact ⟨_, hS, hQ⟩
        · skip
          refine jj_aload_n 2 dd_Mo_transaction_101 rfl ?_
          refine jj_rS (n := 83) hS dd_Mo_transaction_102 ff_Mo_66 rfl (fun _ => rfl) rfl ?_
          refine jj_iload_n 3 dd_Mo_transaction_105 rfl ?_
          refine jj_aS hS dd_Mo_transaction_106 rfl (vp_in_nI (n := c) (by omega) (by decide)) (c) (nI_clamp (n := c) (by omega)) ?_
          refine jj_goto (tgt := 161) dd_Mo_transaction_107 (by decide) ?_
          refine jj_iret dd_Mo_transaction_161 rfl rfl ?_
          rw [if_pos h98] at hQ
          exact ⟨_, hS, hQ⟩
      · exact absurd (by decide) h44
    | succ n ih =>
      intro k z M hk hS hQ
      refine jj_iload 0 dd_Mo_transaction_40 rfl ?_
      refine jj_bipush (v := 12) dd_Mo_transaction_42 rfl ?_
      refine jj_icmp_ge (tgt := 97) dd_Mo_transaction_44 (by decide) (fun h44 => ?_) (fun h44 => ?_)
      · exact absurd h44 (nI_ge (b := 12) (by omega) (by decide))
      · skip
        refine jj_bipush (v := 12) dd_Mo_transaction_47 rfl ?_
        refine jj_iload_n 3 dd_Mo_transaction_49 rfl ?_
        refine jj_imul dd_Mo_transaction_50 ?_
        refine jj_ti (x' := nI (12 * c)) (pk_mul (12) (c)) ?_
        refine jj_iload 0 dd_Mo_transaction_51 rfl ?_
        refine jj_iadd dd_Mo_transaction_53 ?_
        refine jj_ti (x' := nI ((12 * c) + (k))) (nI_add (12 * c) (k)) ?_
        refine jj_istore (lv' := [(5, .int (nI ((12 * c) + (k)))), (4, .int (nI (k))), (3, .int (z)), (0, .ref (g 60)), (1, .int (nI (c))), (2, .int (y))]) dd_Mo_transaction_54 (Nat.le_of_ble_eq_true rfl) rfl ?_
        refine jj_iload_n 5 dd_Mo_transaction_56 rfl ?_
        refine jj_iconst (v := 3) dd_Mo_transaction_57 rfl ?_
        refine jj_icmp_ne (tgt := 74) dd_Mo_transaction_58 (by decide) (fun h58 => ?_) (fun h58 => ?_)
        · skip
          refine jj_aload_n 3 dd_Mo_transaction_74 rfl ?_
          refine jj_rS (n := 89) hS dd_Mo_transaction_75 ff_Mo_84 rfl (fun _ => rfl) rfl ?_
          refine jj_iload 0 dd_Mo_transaction_78 rfl ?_
          refine jj_zS hS dd_Mo_transaction_80 rfl (vp_in_nI (n := (12 * c) + (k)) (by omega) (by decide)) ((12 * c) + (k)) (nI_clamp (n := (12 * c) + (k)) (by omega)) ?_
          refine jj_if_eq (tgt := 91) dd_Mo_transaction_81 (by decide) (fun h81 => ?_) (fun h81 => ?_)
          · skip
            refine jj_iinc 1 (lv' := [(4, .int (nI (k + 1))), (5, .int (nI ((12 * c) + (k)))), (3, .int (z)), (0, .ref (g 60)), (1, .int (nI (c))), (2, .int (y))]) dd_Mo_transaction_91 rfl (nI_1 k) (Nat.le_of_ble_eq_true rfl) rfl ?_
            refine jj_goto (tgt := 40) dd_Mo_transaction_94 (by decide) ?_
            refine jj_sub [0, 2, 3, 4, 5] rfl ?_
            unfold tr_go at hQ
            rw [if_neg h58, if_pos h81] at hQ
            exact ih _ _ _ (by omega) hS hQ
          · skip
            refine jj_iload_n 2 dd_Mo_transaction_84 rfl ?_
            refine jj_iconst (v := 1) dd_Mo_transaction_85 rfl ?_
            refine jj_iload 1 dd_Mo_transaction_86 rfl ?_
            refine jj_ishl dd_Mo_transaction_88 ?_
            refine jj_iadd dd_Mo_transaction_89 ?_
            refine jj_istore_n (lv' := [(3, .int _), (5, .int (nI ((12 * c) + (k)))), (4, .int (nI (k))), (0, .ref (g 60)), (1, .int (nI (c))), (2, .int (y))]) dd_Mo_transaction_90 (Nat.le_of_ble_eq_true rfl) rfl ?_
            refine jj_iinc 2 (lv' := [(4, .int (nI (k + 1))), (3, .int _), (5, .int (nI ((12 * c) + (k)))), (0, .ref (g 60)), (1, .int (nI (c))), (2, .int (y))]) dd_Mo_transaction_91 rfl (nI_1 k) (Nat.le_of_ble_eq_true rfl) rfl ?_
            refine jj_goto (tgt := 40) dd_Mo_transaction_94 (by decide) ?_
            refine jj_sub [0, 1, 3, 4, 5] rfl ?_
            unfold tr_go at hQ
            rw [if_neg h58, if_neg h81] at hQ
            exact ih _ _ _ (by omega) hS hQ
        · skip
          refine jj_aload_n 3 dd_Mo_transaction_61 rfl ?_
          refine jj_rS (n := 87) hS dd_Mo_transaction_62 ff_Mo_78 rfl (fun _ => rfl) rfl ?_
          refine jj_iload 0 dd_Mo_transaction_65 rfl ?_
          refine jj_aS hS dd_Mo_transaction_67 rfl (vp_in_nI (n := (12 * c) + (k)) (by omega) (by decide)) ((12 * c) + (k)) (nI_clamp (n := (12 * c) + (k)) (by omega)) ?_
          refine jj_if_le (tgt := 91) dd_Mo_transaction_68 (by decide) (fun h68 => ?_) (fun h68 => ?_)
          · skip
            refine jj_iinc 1 (lv' := [(4, .int (nI (k + 1))), (5, .int (nI ((12 * c) + (k)))), (3, .int (z)), (0, .ref (g 60)), (1, .int (nI (c))), (2, .int (y))]) dd_Mo_transaction_91 rfl (nI_1 k) (Nat.le_of_ble_eq_true rfl) rfl ?_
            refine jj_goto (tgt := 40) dd_Mo_transaction_94 (by decide) ?_
            refine jj_sub [0, 2, 3, 4, 5] rfl ?_
            unfold tr_go at hQ
            rw [if_pos h58, if_pos h68] at hQ
            exact ih _ _ _ (by omega) hS hQ
          · skip
            refine jj_goto (tgt := 84) dd_Mo_transaction_71 (by decide) ?_
            refine jj_iload_n 2 dd_Mo_transaction_84 rfl ?_
            refine jj_iconst (v := 1) dd_Mo_transaction_85 rfl ?_
            refine jj_iload 1 dd_Mo_transaction_86 rfl ?_
            refine jj_ishl dd_Mo_transaction_88 ?_
            refine jj_iadd dd_Mo_transaction_89 ?_
            refine jj_istore_n (lv' := [(3, .int _), (5, .int (nI ((12 * c) + (k)))), (4, .int (nI (k))), (0, .ref (g 60)), (1, .int (nI (c))), (2, .int (y))]) dd_Mo_transaction_90 (Nat.le_of_ble_eq_true rfl) rfl ?_
            refine jj_iinc 2 (lv' := [(4, .int (nI (k + 1))), (3, .int _), (5, .int (nI ((12 * c) + (k)))), (0, .ref (g 60)), (1, .int (nI (c))), (2, .int (y))]) dd_Mo_transaction_91 rfl (nI_1 k) (Nat.le_of_ble_eq_true rfl) rfl ?_
            refine jj_goto (tgt := 40) dd_Mo_transaction_94 (by decide) ?_
            refine jj_sub [0, 1, 3, 4, 5] rfl ?_
            unfold tr_go at hQ
            rw [if_pos h58, if_neg h68] at hQ
            exact ih _ _ _ (by omega) hS hQ
  refine jj_aload_n 0 dd_Mo_transaction_0 rfl ?_
  refine jj_iconst (v := 0) dd_Mo_transaction_1 rfl ?_
  refine jj_pS hS dd_Mo_transaction_2 ⟨ff_Mo_93, rfl⟩ rfl (fun _ => rfl) ⟨rfl, rfl⟩ (fun M hS => ?_)
  rw [hF] at hS
  refine jj_aload_n 0 dd_Mo_transaction_5 rfl ?_
  refine jj_iload_n 1 dd_Mo_transaction_6 rfl ?_
  refine jj_callV (ci := 7) [_] [] 0 0 dd_Mo_transaction_7 cs_Mo_131 ci_Mo_131 (hS.1.1 60 _ rfl) ⟨by decide, rfl⟩ rfl (Nat.le_of_ble_eq_true rfl) ⟨(Nat.le_of_ble_eq_true rfl), (Nat.le_of_ble_eq_true rfl)⟩ ⟨(Nat.le_of_ble_eq_true rfl), (Nat.le_of_ble_eq_true rfl)⟩ rfl (ct_Mo_isClient (fun hb => ?_) (fun hb hb2 => ?_))
  · skip
    exact absurd hb (nc_ (n := 3) (by decide) (by omega) (by decide))
  · skip
    refine jj_if_eq (tgt := 22) dd_Mo_transaction_10 (by decide) (fun h => absurd h (by decide)) (fun _ => ?_)
    refine jj_iload_n 2 dd_Mo_transaction_13 rfl ?_
    refine jj_iconst (v := 0) dd_Mo_transaction_14 rfl ?_
    refine jj_iconst (v := 5) dd_Mo_transaction_15 rfl ?_
    refine jj_callS [_, _, _] [] 0 0 dd_Mo_transaction_16 cs_Mo_127 ci_Mo_127 rfl (Nat.le_of_ble_eq_true rfl) ⟨(Nat.le_of_ble_eq_true rfl), (Nat.le_of_ble_eq_true rfl)⟩ ⟨(Nat.le_of_ble_eq_true rfl), (Nat.le_of_ble_eq_true rfl)⟩ rfl (ct_Mo_in (fun hb => ?_) (fun hb hb2 => ?_))
    · skip
      exact absurd hb (fun h => h.elim hy hy2)
    · skip
      refine jj_if_ne (tgt := 24) dd_Mo_transaction_19 (by decide) (fun _ => ?_) (fun h => absurd h (by decide))
      refine jj_aload_n 0 dd_Mo_transaction_24 rfl ?_
      refine jj_rS (n := 83) hS dd_Mo_transaction_25 ff_Mo_66 rfl (fun _ => rfl) rfl ?_
      refine jj_iload_n 1 dd_Mo_transaction_28 rfl ?_
      refine jj_aS hS dd_Mo_transaction_29 rfl (vp_in_nI (n := c) (by omega) (by decide)) (c) (nI_clamp (n := c) (by omega)) ?_
      refine jj_if_ne (tgt := 35) dd_Mo_transaction_30 (by decide) (fun h30 => ?_) (fun h30 => ?_)
      · skip
        refine jj_iconst (v := 0) dd_Mo_transaction_35 rfl ?_
        refine jj_istore_n (lv' := [(3, .int (0)), (0, .ref (g 60)), (1, .int (nI (c))), (2, .int (y))]) dd_Mo_transaction_36 (Nat.le_of_ble_eq_true rfl) rfl ?_
        refine jj_iconst (v := 0) dd_Mo_transaction_37 rfl ?_
        refine jj_istore (lv' := [(4, .int (0)), (3, .int (0)), (0, .ref (g 60)), (1, .int (nI (c))), (2, .int (y))]) dd_Mo_transaction_38 (Nat.le_of_ble_eq_true rfl) rfl ?_
        rw [if_neg h30] at hQ
        exact loop 12 0 _ _ (by omega) hS hQ
      · skip
        refine jj_iconst (v := 0) dd_Mo_transaction_33 rfl ?_
        refine jj_iret dd_Mo_transaction_34 rfl rfl ?_
        rw [if_pos h30] at hQ
        exact ⟨_, hS, hQ⟩
set_option maxRecDepth 20000 in
theorem cs_Mo_transaction0 {l : Launch} {g : Nat → Nat} {S : ss_} {Q : Option Value → ss_ → Prop} {u v : Int32} {F : Nat → Nat → Int32} (hF : uf_ S.1 60 1 0 = F) (hx : (u < 0 ∨ 3 < u) ∨ (v < 0 ∨ 5 < v)) (hQ : Q (some (.int (-1))) (F, S.2)) : cs_ l yy_Mo_transaction bb_Mo_transaction 6 (some .int) 2 0 0 g [.ref (g 60), .int u, .int v] S Q := by
  intro M hS
  refine ct_of (by decide) (Nat.le_of_ble_eq_true rfl) (fun G A => ?_)
  refine jj_aload_n 0 dd_Mo_transaction_0 rfl ?_
  refine jj_iconst (v := 0) dd_Mo_transaction_1 rfl ?_
  refine jj_pS hS dd_Mo_transaction_2 ⟨ff_Mo_93, rfl⟩ rfl (fun _ => rfl) ⟨rfl, rfl⟩ (fun M hS => ?_)
  rw [hF] at hS
  refine jj_aload_n 0 dd_Mo_transaction_5 rfl ?_
  refine jj_iload_n 1 dd_Mo_transaction_6 rfl ?_
  refine jj_callV (ci := 7) [_] [] 0 0 dd_Mo_transaction_7 cs_Mo_131 ci_Mo_131 (hS.1.1 60 _ rfl) ⟨by decide, rfl⟩ rfl (Nat.le_of_ble_eq_true rfl) ⟨(Nat.le_of_ble_eq_true rfl), (Nat.le_of_ble_eq_true rfl)⟩ ⟨(Nat.le_of_ble_eq_true rfl), (Nat.le_of_ble_eq_true rfl)⟩ rfl (ct_Mo_isClient (fun hb => ?_) (fun hb hb2 => ?_))
  · skip
    refine jj_if_eq (tgt := 22) dd_Mo_transaction_10 (by decide) (fun _ => ?_) (fun h => absurd h (by decide))
    refine jj_iconst (v := (-1)) dd_Mo_transaction_22 rfl ?_
    refine jj_iret dd_Mo_transaction_23 rfl rfl ?_
    exact ⟨_, hS, hQ⟩
  · skip
    have hv := hx.resolve_left (fun h => h.elim hb hb2)
    refine jj_if_eq (tgt := 22) dd_Mo_transaction_10 (by decide) (fun h => absurd h (by decide)) (fun _ => ?_)
    refine jj_iload_n 2 dd_Mo_transaction_13 rfl ?_
    refine jj_iconst (v := 0) dd_Mo_transaction_14 rfl ?_
    refine jj_iconst (v := 5) dd_Mo_transaction_15 rfl ?_
    refine jj_callS [_, _, _] [] 0 0 dd_Mo_transaction_16 cs_Mo_127 ci_Mo_127 rfl (Nat.le_of_ble_eq_true rfl) ⟨(Nat.le_of_ble_eq_true rfl), (Nat.le_of_ble_eq_true rfl)⟩ ⟨(Nat.le_of_ble_eq_true rfl), (Nat.le_of_ble_eq_true rfl)⟩ rfl (ct_Mo_in (fun hb => ?_) (fun hb hb2 => ?_))
    · skip
      refine jj_if_ne (tgt := 24) dd_Mo_transaction_19 (by decide) (fun h => absurd h (by decide)) (fun _ => ?_)
      refine jj_iconst (v := (-1)) dd_Mo_transaction_22 rfl ?_
      refine jj_iret dd_Mo_transaction_23 rfl rfl ?_
      exact ⟨_, hS, hQ⟩
    · skip
      exact absurd hv (fun h => h.elim hb hb2)
end
section
def si_go (c w z : Int32) : Nat → Nat → (Nat → Nat → Int32) → (Nat → Nat → Int32)
  | 0, _, F => F
  | n + 1, k, F => si_go c w z n (k + 1) (if F 72 k = c then (if w ≤ F 73 k then F else if nI k = z then F else uf_ F 75 k 0) else F)
theorem si_oth (c w z : Int32) : ∀ (n k : Nat) (F : Nat → Nat → Int32) (a j : Nat), a ≠ 75 → si_go c w z n k F a j = F a j := by
  intro n
  induction n with
  | zero => intro k F a j _; rfl
  | succ n ih =>
    intro k F a j ha
    unfold si_go
    rw [ih _ _ _ _ ha]
    split
    · split
      · rfl
      · split
        · rfl
        · rw [uf_at, if_neg (fun h => ha h.1)]
    · rfl
def sz_ (F : Nat → Nat → Int32) (c w : Int32) : Int32 := if la_ F c w < 0 then la_ F c w else if F 75 (la_ F c w).toNatClampNeg = 2 then -1 else la_ F c w
def so_go (t : Nat) (w : Int32) : Nat → Nat → (Nat → Nat → Int32) → (Nat → Nat → Int32)
  | 0, _, F => F
  | n + 1, k, F => so_go t w n (k + 1) (si_go (nI (4 * t + k)) w (sz_ F (nI (4 * t + k)) w) (rec_ F) 0 F)
theorem so_oth (t : Nat) (w : Int32) : ∀ (n k : Nat) (F : Nat → Nat → Int32) (a j : Nat), a ≠ 75 → so_go t w n k F a j = F a j := by
  intro n
  induction n with
  | zero => intro k F a j _; rfl
  | succ n ih =>
    intro k F a j ha
    unfold so_go
    rw [ih _ _ _ _ ha, si_oth _ _ _ _ _ _ _ _ ha]
def st_F (F : Nat → Nat → Int32) (t : Nat) (w : Int32) : Nat → Nat → Int32 := so_go t w 4 0 (uf_ F 78 t w)
set_option maxRecDepth 20000 in
theorem cs_Mo_sweepTablet {l : Launch} {g : Nat → Nat} {S : ss_} {Q : Option Value → ss_ → Prop} {t : Nat} {w : Int32} (ht : t < 3) (hr2 : rec_ S.1 ≤ 1540) (hr : S.1 60 11 = nI (rec_ S.1)) (hQ : Q none (st_F S.1 t w, S.2)) : cs_ l yy_Mo_sweepTablet bb_Mo_sweepTablet 6 none 1 0 0 g [.ref (g 60), .int (nI t), .int w] S Q := by
  intro M hS
  refine ct_of (by decide) (Nat.le_of_ble_eq_true rfl) (fun G A => ?_)
  have inner : ∀ (n k i r : Nat) (z : Int32) (F : Nat → Nat → Int32) (M : mm_M), k + n = r → r ≤ 1540 → F 60 11 = nI r → rp_ g M (F, S.2) → (∀ M, rp_ g M (si_go (nI i) w z n k F, S.2) → jj_ l yy_Mo_sweepTablet bb_Mo_sweepTablet 6 none G (mm_R 1 0 0) A (mm_ret (qs_ g Q)) 0 0 107 [(5, .int (nI (r))), (4, .int (z)), (3, .int (nI (i))), (0, .ref (g 60)), (1, .int (nI (t))), (2, .int (w))] [] M) → jj_ l yy_Mo_sweepTablet bb_Mo_sweepTablet 6 none G (mm_R 1 0 0) A (mm_ret (qs_ g Q)) 0 0 55 [(5, .int (nI (k))), (4, .int (z)), (3, .int (nI (i))), (0, .ref (g 60)), (1, .int (nI (t))), (2, .int (w))] [] M := by
    intro n
    induction n with
    | zero =>
      intro k i r z F M hk hr2 hr hS hQ
      have hk : k = r := by omega
      subst hk
      refine jj_iload 0 dd_Mo_sweepTablet_55 rfl ?_
      refine jj_aload_n 3 dd_Mo_sweepTablet_57 rfl ?_
      refine jj_gS hS dd_Mo_sweepTablet_58 ff_Mo_99 rfl (fun _ => rfl) ?_
      refine jj_ti (x' := nI (k)) hr ?_
      refine jj_icmp_ge (tgt := 107) dd_Mo_sweepTablet_61 (by decide) (fun h61 => ?_) (fun h61 => ?_)
      · skip
        exact hQ _ hS
      · exact absurd (mm_rfl _) h61
    | succ n ih =>
      intro k i r z F M hk hr2 hr hS hQ
      refine jj_iload 0 dd_Mo_sweepTablet_55 rfl ?_
      refine jj_aload_n 3 dd_Mo_sweepTablet_57 rfl ?_
      refine jj_gS hS dd_Mo_sweepTablet_58 ff_Mo_99 rfl (fun _ => rfl) ?_
      refine jj_ti (x' := nI (r)) hr ?_
      refine jj_icmp_ge (tgt := 107) dd_Mo_sweepTablet_61 (by decide) (fun h61 => ?_) (fun h61 => ?_)
      · exact absurd h61 (nI_ge (by omega) (by omega))
      · skip
        refine jj_aload_n 3 dd_Mo_sweepTablet_64 rfl ?_
        refine jj_rS (n := 72) hS dd_Mo_sweepTablet_65 ff_Mo_32 rfl (fun _ => rfl) rfl ?_
        refine jj_iload 0 dd_Mo_sweepTablet_68 rfl ?_
        refine jj_aS hS dd_Mo_sweepTablet_70 rfl (vp_in_nI (n := k) (by omega) (by decide)) (k) (nI_clamp (n := k) (by omega)) ?_
        refine jj_iload_n 2 dd_Mo_sweepTablet_71 rfl ?_
        refine jj_icmp_ne (tgt := 101) dd_Mo_sweepTablet_72 (by decide) (fun h72 => ?_) (fun h72 => ?_)
        · skip
          refine jj_iinc 0 (lv' := [(5, .int (nI (k + 1))), (4, .int (z)), (3, .int (nI (i))), (0, .ref (g 60)), (1, .int (nI (t))), (2, .int (w))]) dd_Mo_sweepTablet_101 rfl (nI_1 k) (Nat.le_of_ble_eq_true rfl) rfl ?_
          refine jj_goto (tgt := 55) dd_Mo_sweepTablet_104 (by decide) ?_
          unfold si_go at hQ
          rw [if_neg h72] at hQ
          exact ih _ _ _ _ _ _ (by omega) hr2 (by first | exact hr | (show uf_ F 75 k 0 60 11 = nI r; simpa [uf_at] using hr)) hS hQ
        · skip
          refine jj_aload_n 3 dd_Mo_sweepTablet_75 rfl ?_
          refine jj_rS (n := 73) hS dd_Mo_sweepTablet_76 ff_Mo_35 rfl (fun _ => rfl) rfl ?_
          refine jj_iload 0 dd_Mo_sweepTablet_79 rfl ?_
          refine jj_aS hS dd_Mo_sweepTablet_81 rfl (vp_in_nI (n := k) (by omega) (by decide)) (k) (nI_clamp (n := k) (by omega)) ?_
          refine jj_iload_n 5 dd_Mo_sweepTablet_82 rfl ?_
          refine jj_icmp_ge (tgt := 101) dd_Mo_sweepTablet_83 (by decide) (fun h83 => ?_) (fun h83 => ?_)
          · skip
            refine jj_iinc 0 (lv' := [(5, .int (nI (k + 1))), (4, .int (z)), (3, .int (nI (i))), (0, .ref (g 60)), (1, .int (nI (t))), (2, .int (w))]) dd_Mo_sweepTablet_101 rfl (nI_1 k) (Nat.le_of_ble_eq_true rfl) rfl ?_
            refine jj_goto (tgt := 55) dd_Mo_sweepTablet_104 (by decide) ?_
            unfold si_go at hQ
            rw [if_pos h72, if_pos h83] at hQ
            exact ih _ _ _ _ _ _ (by omega) hr2 (by first | exact hr | (show uf_ F 75 k 0 60 11 = nI r; simpa [uf_at] using hr)) hS hQ
          · skip
            refine jj_iload 0 dd_Mo_sweepTablet_86 rfl ?_
            refine jj_iload 1 dd_Mo_sweepTablet_88 rfl ?_
            refine jj_icmp_eq (tgt := 101) dd_Mo_sweepTablet_90 (by decide) (fun h90 => ?_) (fun h90 => ?_)
            · skip
              refine jj_iinc 0 (lv' := [(5, .int (nI (k + 1))), (4, .int (z)), (3, .int (nI (i))), (0, .ref (g 60)), (1, .int (nI (t))), (2, .int (w))]) dd_Mo_sweepTablet_101 rfl (nI_1 k) (Nat.le_of_ble_eq_true rfl) rfl ?_
              refine jj_goto (tgt := 55) dd_Mo_sweepTablet_104 (by decide) ?_
              unfold si_go at hQ
              rw [if_pos h72, if_neg h83, if_pos h90] at hQ
              exact ih _ _ _ _ _ _ (by omega) hr2 (by first | exact hr | (show uf_ F 75 k 0 60 11 = nI r; simpa [uf_at] using hr)) hS hQ
            · skip
              refine jj_aload_n 3 dd_Mo_sweepTablet_93 rfl ?_
              refine jj_rS (n := 75) hS dd_Mo_sweepTablet_94 ff_Mo_41 rfl (fun _ => rfl) rfl ?_
              refine jj_iload 0 dd_Mo_sweepTablet_97 rfl ?_
              refine jj_iconst (v := 0) dd_Mo_sweepTablet_99 rfl ?_
              refine jj_asS hS dd_Mo_sweepTablet_100 rfl (vp_in_nI (n := k) (by omega) (by decide)) (k) (nI_clamp (n := k) (by omega)) (fun M hS => ?_)
              refine jj_iinc 0 (lv' := [(5, .int (nI (k + 1))), (4, .int (z)), (3, .int (nI (i))), (0, .ref (g 60)), (1, .int (nI (t))), (2, .int (w))]) dd_Mo_sweepTablet_101 rfl (nI_1 k) (Nat.le_of_ble_eq_true rfl) rfl ?_
              refine jj_goto (tgt := 55) dd_Mo_sweepTablet_104 (by decide) ?_
              unfold si_go at hQ
              rw [if_pos h72, if_neg h83, if_neg h90] at hQ
              exact ih _ _ _ _ _ _ (by omega) hr2 (by first | exact hr | (show uf_ F 75 k 0 60 11 = nI r; simpa [uf_at] using hr)) hS hQ
  have loop : ∀ (n k : Nat) (F : Nat → Nat → Int32) (M : mm_M), k + n = 4 → rec_ F ≤ 1540 → F 60 11 = nI (rec_ F) → rp_ g M (F, S.2) → Q none (so_go t w n k F, S.2) → jj_ l yy_Mo_sweepTablet bb_Mo_sweepTablet 6 none G (mm_R 1 0 0) A (mm_ret (qs_ g Q)) 0 0 11 [(3, .int (nI (4 * t + k))), (0, .ref (g 60)), (1, .int (nI (t))), (2, .int (w))] [] M := by
    intro n
    induction n with
    | zero =>
      intro k F M hk hr2 hr hS hQ
      have hk : k = 4 := by omega
      subst hk
      refine jj_iload_n 0 dd_Mo_sweepTablet_11 rfl ?_
      refine jj_iconst (v := 4) dd_Mo_sweepTablet_12 rfl ?_
      refine jj_iload_n 2 dd_Mo_sweepTablet_13 rfl ?_
      refine jj_imul dd_Mo_sweepTablet_14 ?_
      refine jj_ti (x' := nI (4 * t)) (pk_mul (4) (t)) ?_
      refine jj_iconst (v := 4) dd_Mo_sweepTablet_15 rfl ?_
      refine jj_iadd dd_Mo_sweepTablet_16 ?_
      refine jj_ti (x' := nI ((4 * t) + (4))) (nI_add (4 * t) (4)) ?_
      refine jj_icmp_ge (tgt := 113) dd_Mo_sweepTablet_17 (by decide) (fun h17 => ?_) (fun h17 => ?_)
      · skip
        refine jj_vret dd_Mo_sweepTablet_113 rfl ?_
        exact ⟨_, hS, hQ⟩
      · exact absurd (mm_rfl _) h17
    | succ n ih =>
      intro k F M hk hr2 hr hS hQ
      refine jj_iload_n 0 dd_Mo_sweepTablet_11 rfl ?_
      refine jj_iconst (v := 4) dd_Mo_sweepTablet_12 rfl ?_
      refine jj_iload_n 2 dd_Mo_sweepTablet_13 rfl ?_
      refine jj_imul dd_Mo_sweepTablet_14 ?_
      refine jj_ti (x' := nI (4 * t)) (pk_mul (4) (t)) ?_
      refine jj_iconst (v := 4) dd_Mo_sweepTablet_15 rfl ?_
      refine jj_iadd dd_Mo_sweepTablet_16 ?_
      refine jj_ti (x' := nI ((4 * t) + (4))) (nI_add (4 * t) (4)) ?_
      refine jj_icmp_ge (tgt := 113) dd_Mo_sweepTablet_17 (by decide) (fun h17 => ?_) (fun h17 => ?_)
      · exact absurd h17 (nI_ge (by omega) (by omega))
      · skip
        refine jj_aload_n 1 dd_Mo_sweepTablet_20 rfl ?_
        refine jj_iload_n 0 dd_Mo_sweepTablet_21 rfl ?_
        refine jj_iload_n 3 dd_Mo_sweepTablet_22 rfl ?_
        refine jj_callV (ci := 7) [_, _] [] 0 0 dd_Mo_sweepTablet_23 cs_Mo_148 ci_Mo_148 (hS.1.1 60 _ rfl) ⟨by decide, rfl⟩ rfl (Nat.le_of_ble_eq_true rfl) ⟨(Nat.le_of_ble_eq_true rfl), (Nat.le_of_ble_eq_true rfl)⟩ ⟨(Nat.le_of_ble_eq_true rfl), (Nat.le_of_ble_eq_true rfl)⟩ rfl (cs_use (cs_Mo_latest (S := (F, S.2)) hr hr2 (fun M hS => ?_)) hS)
        refine jj_istore (lv' := [(4, .int _), (3, .int (nI (4 * t + k))), (0, .ref (g 60)), (1, .int (nI (t))), (2, .int (w))]) dd_Mo_sweepTablet_26 (Nat.le_of_ble_eq_true rfl) rfl ?_
        refine jj_iload 0 dd_Mo_sweepTablet_28 rfl ?_
        refine jj_if_lt (tgt := 48) dd_Mo_sweepTablet_30 (by decide) (fun h30 => ?_) (fun h30 => ?_)
        · skip
          refine jj_iload 0 dd_Mo_sweepTablet_48 rfl ?_
          refine jj_istore (lv' := [(4, .int _), (3, .int (nI (4 * t + k))), (0, .ref (g 60)), (1, .int (nI (t))), (2, .int (w))]) dd_Mo_sweepTablet_50 (Nat.le_of_ble_eq_true rfl) rfl ?_
          refine jj_iconst (v := 0) dd_Mo_sweepTablet_52 rfl ?_
          refine jj_istore (lv' := [(5, .int (0)), (4, .int _), (3, .int (nI (4 * t + k))), (0, .ref (g 60)), (1, .int (nI (t))), (2, .int (w))]) dd_Mo_sweepTablet_53 (Nat.le_of_ble_eq_true rfl) rfl ?_
          unfold so_go sz_ at hQ
          rw [if_pos h30] at hQ
          refine inner (rec_ F) 0 (4 * t + k) (rec_ F) _ F M (by omega) hr2 hr hS (fun M hS => ?_)
          have e1 : ∀ z, rec_ (si_go (nI (4 * t + k)) w z (rec_ F) 0 F) = rec_ F := fun z => by unfold rec_; rw [si_oth _ _ _ _ _ _ _ _ (by omega)]
          refine jj_iinc 2 (lv' := [(3, .int (nI (4 * t + (k + 1)))), (5, .int (nI (rec_ F))), (4, .int _), (0, .ref (g 60)), (1, .int (nI (t))), (2, .int (w))]) dd_Mo_sweepTablet_107 rfl (nI_1 (4 * t + k)) (Nat.le_of_ble_eq_true rfl) rfl ?_
          refine jj_goto (tgt := 11) dd_Mo_sweepTablet_110 (by decide) ?_
          refine jj_sub [0, 3, 4, 5] rfl ?_
          exact ih _ _ _ (by omega) (by rw [e1]; exact hr2) (by rw [e1, si_oth _ _ _ _ _ _ _ _ (by omega)]; exact hr) hS hQ
        · skip
          refine jj_aload_n 2 dd_Mo_sweepTablet_33 rfl ?_
          refine jj_rS (n := 75) hS dd_Mo_sweepTablet_34 ff_Mo_41 rfl (fun _ => rfl) rfl ?_
          refine jj_iload 0 dd_Mo_sweepTablet_37 rfl ?_
          refine jj_aS hS dd_Mo_sweepTablet_39 rfl (ix_in (la_ix _ _ _ hr2) h30) ((la_ F (nI (4 * t + k)) w).toNatClampNeg) rfl ?_
          refine jj_iconst (v := 2) dd_Mo_sweepTablet_40 rfl ?_
          refine jj_icmp_ne (tgt := 48) dd_Mo_sweepTablet_41 (by decide) (fun h41 => ?_) (fun h41 => ?_)
          · skip
            refine jj_iload 0 dd_Mo_sweepTablet_48 rfl ?_
            refine jj_istore (lv' := [(4, .int _), (3, .int (nI (4 * t + k))), (0, .ref (g 60)), (1, .int (nI (t))), (2, .int (w))]) dd_Mo_sweepTablet_50 (Nat.le_of_ble_eq_true rfl) rfl ?_
            refine jj_iconst (v := 0) dd_Mo_sweepTablet_52 rfl ?_
            refine jj_istore (lv' := [(5, .int (0)), (4, .int _), (3, .int (nI (4 * t + k))), (0, .ref (g 60)), (1, .int (nI (t))), (2, .int (w))]) dd_Mo_sweepTablet_53 (Nat.le_of_ble_eq_true rfl) rfl ?_
            unfold so_go sz_ at hQ
            rw [if_neg h30, if_neg h41] at hQ
            refine inner (rec_ F) 0 (4 * t + k) (rec_ F) _ F M (by omega) hr2 hr hS (fun M hS => ?_)
            have e1 : ∀ z, rec_ (si_go (nI (4 * t + k)) w z (rec_ F) 0 F) = rec_ F := fun z => by unfold rec_; rw [si_oth _ _ _ _ _ _ _ _ (by omega)]
            refine jj_iinc 2 (lv' := [(3, .int (nI (4 * t + (k + 1)))), (5, .int (nI (rec_ F))), (4, .int _), (0, .ref (g 60)), (1, .int (nI (t))), (2, .int (w))]) dd_Mo_sweepTablet_107 rfl (nI_1 (4 * t + k)) (Nat.le_of_ble_eq_true rfl) rfl ?_
            refine jj_goto (tgt := 11) dd_Mo_sweepTablet_110 (by decide) ?_
            refine jj_sub [0, 3, 4, 5] rfl ?_
            exact ih _ _ _ (by omega) (by rw [e1]; exact hr2) (by rw [e1, si_oth _ _ _ _ _ _ _ _ (by omega)]; exact hr) hS hQ
          · skip
            refine jj_iconst (v := (-1)) dd_Mo_sweepTablet_44 rfl ?_
            refine jj_goto (tgt := 50) dd_Mo_sweepTablet_45 (by decide) ?_
            refine jj_istore (lv' := [(4, .int ((-1))), (3, .int (nI (4 * t + k))), (0, .ref (g 60)), (1, .int (nI (t))), (2, .int (w))]) dd_Mo_sweepTablet_50 (Nat.le_of_ble_eq_true rfl) rfl ?_
            refine jj_iconst (v := 0) dd_Mo_sweepTablet_52 rfl ?_
            refine jj_istore (lv' := [(5, .int (0)), (4, .int ((-1))), (3, .int (nI (4 * t + k))), (0, .ref (g 60)), (1, .int (nI (t))), (2, .int (w))]) dd_Mo_sweepTablet_53 (Nat.le_of_ble_eq_true rfl) rfl ?_
            unfold so_go sz_ at hQ
            rw [if_neg h30, if_pos h41] at hQ
            refine inner (rec_ F) 0 (4 * t + k) (rec_ F) _ F M (by omega) hr2 hr hS (fun M hS => ?_)
            have e1 : ∀ z, rec_ (si_go (nI (4 * t + k)) w z (rec_ F) 0 F) = rec_ F := fun z => by unfold rec_; rw [si_oth _ _ _ _ _ _ _ _ (by omega)]
            refine jj_iinc 2 (lv' := [(3, .int (nI (4 * t + (k + 1)))), (5, .int (nI (rec_ F))), (4, .int ((-1))), (0, .ref (g 60)), (1, .int (nI (t))), (2, .int (w))]) dd_Mo_sweepTablet_107 rfl (nI_1 (4 * t + k)) (Nat.le_of_ble_eq_true rfl) rfl ?_
            refine jj_goto (tgt := 11) dd_Mo_sweepTablet_110 (by decide) ?_
            refine jj_sub [0, 3, 4, 5] rfl ?_
            exact ih _ _ _ (by omega) (by rw [e1]; exact hr2) (by rw [e1, si_oth _ _ _ _ _ _ _ _ (by omega)]; exact hr) hS hQ
  refine jj_aload_n 0 dd_Mo_sweepTablet_0 rfl ?_
  refine jj_rS (n := 78) hS dd_Mo_sweepTablet_1 ff_Mo_51 rfl (fun _ => rfl) rfl ?_
  refine jj_iload_n 1 dd_Mo_sweepTablet_4 rfl ?_
  refine jj_iload_n 2 dd_Mo_sweepTablet_5 rfl ?_
  refine jj_asS hS dd_Mo_sweepTablet_6 rfl (vp_in_nI (n := t) (by omega) (by decide)) (t) (nI_clamp (n := t) (by omega)) (fun M hS => ?_)
  refine jj_iconst (v := 4) dd_Mo_sweepTablet_7 rfl ?_
  refine jj_iload_n 1 dd_Mo_sweepTablet_8 rfl ?_
  refine jj_imul dd_Mo_sweepTablet_9 ?_
  refine jj_ti (x' := nI (4 * t)) (pk_mul (4) (t)) ?_
  refine jj_istore_n (lv' := [(3, .int (nI (4 * t))), (0, .ref (g 60)), (1, .int (nI (t))), (2, .int (w))]) dd_Mo_sweepTablet_10 (Nat.le_of_ble_eq_true rfl) rfl ?_
  have e0 : rec_ (uf_ S.1 78 t w) = rec_ S.1 := by unfold rec_; rw [uf_at, if_neg (by omega)]
  exact loop 4 0 _ _ (by omega) (by rw [e0]; exact hr2) (by rw [e0, uf_at, if_neg (by omega)]; exact hr) hS hQ
end
section
def m0_ (F : Nat → Nat → Int32) (w : Int32) : Int32 := if w < 1 then 0 else if F 60 3 < w then 0 else 1
def m1_go (F : Nat → Nat → Int32) (w : Int32) : Nat → Nat → Int32 → Int32
  | 0, _, z => z
  | n + 1, k, z => m1_go F w n (k + 1) (if z = 0 then 0 else if F 77 k = 0 then (if w ≤ F 78 k then 0 else 1) else 0)
def m2_go (F : Nat → Nat → Int32) (w : Int32) : Nat → Nat → Int32 → Int32
  | 0, _, z => z
  | n + 1, k, z => m2_go F w n (k + 1) (if z = 0 then 0 else if F 65 k = 0 then 1 else if F 65 k < w then 0 else 1)
def m3_go (F : Nat → Nat → Int32) (w : Int32) : Nat → Nat → Int32 → Int32
  | 0, _, z => z
  | n + 1, k, z => m3_go F w n (k + 1) (if z = 0 then 0 else if F 83 k = 2 then (if F 84 k < w then 0 else 1) else 1)
def sw_go (w : Int32) : Nat → Nat → Int32 → Int32 → (Nat → Nat → Int32) → (Int32 → (Nat → Nat → Int32) → Prop) → Prop
  | 0, _, a, _, F, K => K a F
  | n + 1, k, a, b, F, K => if b = 0 then K a F else if en_g F k = 0 then sw_go w n (k + 1) a (if en_F F k 77 k = 0 then 1 else 0) (en_F F k) K else sw_go w n (k + 1) (a + 1) (if st_F (en_F F k) k w 77 k = 0 then 1 else 0) (st_F (en_F F k) k w) K
def sw_m (F : Nat → Nat → Int32) (w : Int32) : Int32 := m3_go F w 4 0 (m2_go F w 12 0 (m1_go F w 3 0 (m0_ F w)))
def sw_ (F : Nat → Nat → Int32) (w z : Int32) (K : Int32 → (Nat → Nat → Int32) → Prop) : Prop := if z = 0 then K (-1) F else sw_go w 3 0 0 1 F K
theorem st_oth (F : Nat → Nat → Int32) (t : Nat) (w : Int32) (a j : Nat) (h1 : a ≠ 75) (h2 : a ≠ 78) : st_F F t w a j = F a j := by
  unfold st_F
  rw [so_oth _ _ _ _ _ _ _ h1, uf_at, if_neg (fun h => h2 h.1)]
theorem en_rec (F : Nat → Nat → Int32) (t : Nat) : rec_ (en_F F t) = rec_ F := by
  unfold rec_
  rw [en_oth _ _ _ _ (by omega)]
theorem st_rec (F : Nat → Nat → Int32) (t : Nat) (w : Int32) : rec_ (st_F F t w) = rec_ F := by
  unfold rec_
  rw [st_oth _ _ _ _ _ (by omega) (by omega)]
set_option maxRecDepth 20000 in
theorem sw_loop4 {l : Launch} {g : Nat → Nat} {S : ss_} {Q : Option Value → ss_ → Prop} {w : Int32} {G : mm_G} {A : Nat → Prop}  : ∀ (n k : Nat) (a b z : Int32) (F : Nat → Nat → Int32) (M : mm_M), k + n = 3 → rec_ F ≤ 1540 → F 60 11 = nI (rec_ F) → rp_ g M (F, S.2) → sw_go w n k a b F (fun r F => Q (some (.int r)) (F, S.2)) → jj_ l yy_Mo_sweep bb_Mo_sweep 7 (some .int) G (mm_R 2 0 0) A (mm_ret (qs_ g Q)) 0 0 166 [(5, .int (nI (k))), (4, .int (b)), (3, .int (a)), (2, .int (z)), (0, .ref (g 60)), (1, .int (w))] [] M := by
  intro n
  induction n with
  | zero =>
    intro k a b z F M hk hr2 hr hS hQ
    have hk : k = 3 := by omega
    subst hk
    refine jj_iload 0 dd_Mo_sweep_166 rfl ?_
    refine jj_iconst (v := 3) dd_Mo_sweep_168 rfl ?_
    refine jj_icmp_ge (tgt := 223) dd_Mo_sweep_169 (by decide) (fun h169 => ?_) (fun h169 => ?_)
    · skip
      refine jj_iload_n 2 dd_Mo_sweep_223 rfl ?_
      refine jj_iret dd_Mo_sweep_224 rfl rfl ?_
      exact ⟨_, hS, hQ⟩
    · exact absurd (mm_rfl _) h169
  | succ n ih =>
    intro k a b z F M hk hr2 hr hS hQ
    refine jj_iload 0 dd_Mo_sweep_166 rfl ?_
    refine jj_iconst (v := 3) dd_Mo_sweep_168 rfl ?_
    refine jj_icmp_ge (tgt := 223) dd_Mo_sweep_169 (by decide) (fun h169 => ?_) (fun h169 => ?_)
    · exact absurd h169 (nI_ge (b := 3) (by omega) (by decide))
    · skip
      refine jj_iload 1 dd_Mo_sweep_172 rfl ?_
      refine jj_if_eq (tgt := 223) dd_Mo_sweep_174 (by decide) (fun h174 => ?_) (fun h174 => ?_)
      · skip
        refine jj_iload_n 2 dd_Mo_sweep_223 rfl ?_
        refine jj_iret dd_Mo_sweep_224 rfl rfl ?_
        unfold sw_go at hQ
        rw [if_pos h174] at hQ
        exact ⟨_, hS, hQ⟩
      · skip
        refine jj_aload_n 4 dd_Mo_sweep_177 rfl ?_
        refine jj_iload 0 dd_Mo_sweep_178 rfl ?_
        refine jj_callV (ci := 7) [_] [] 0 0 dd_Mo_sweep_180 cs_Mo_102 ci_Mo_102 (hS.1.1 60 _ rfl) ⟨by decide, rfl⟩ rfl (Nat.le_of_ble_eq_true rfl) ⟨(Nat.le_of_ble_eq_true rfl), (Nat.le_of_ble_eq_true rfl)⟩ ⟨(Nat.le_of_ble_eq_true rfl), (Nat.le_of_ble_eq_true rfl)⟩ rfl (cs_use (cs_Mo_entry (S := (F, S.2)) (t := k) (by omega) (fun M hS => ?_)) hS)
        obtain ⟨F1, hF1⟩ : ∃ F1, en_F F k = F1 := ⟨_, rfl⟩
        replace hS : rp_ g M (F1, S.2) := by rw [← hF1]; exact hS
        have r1 : rec_ F1 ≤ 1540 := by rw [← hF1, en_rec]; exact hr2
        have r2 : F1 60 11 = nI (rec_ F1) := by rw [← hF1, en_rec, en_oth _ _ _ _ (by omega)]; exact hr
        refine jj_istore (lv' := [(6, .int _), (5, .int (nI (k))), (4, .int (b)), (3, .int (a)), (2, .int (z)), (0, .ref (g 60)), (1, .int (w))]) dd_Mo_sweep_183 (Nat.le_of_ble_eq_true rfl) rfl ?_
        refine jj_iload 0 dd_Mo_sweep_185 rfl ?_
        refine jj_if_eq (tgt := 200) dd_Mo_sweep_187 (by decide) (fun h187 => ?_) (fun h187 => ?_)
        · skip
          refine jj_aload_n 5 dd_Mo_sweep_200 rfl ?_
          refine jj_rS (n := 77) hS dd_Mo_sweep_201 ff_Mo_47 rfl (fun _ => rfl) rfl ?_
          refine jj_iload 1 dd_Mo_sweep_204 rfl ?_
          refine jj_zS hS dd_Mo_sweep_206 rfl (vp_in_nI (n := k) (by omega) (by decide)) (k) (nI_clamp (n := k) (by omega)) ?_
          refine jj_if_ne (tgt := 214) dd_Mo_sweep_207 (by decide) (fun h207 => ?_) (fun h207 => ?_)
          · skip
            refine jj_iconst (v := 0) dd_Mo_sweep_214 rfl ?_
            refine jj_istore (lv' := [(4, .int (0)), (6, .int _), (5, .int (nI (k))), (3, .int (a)), (2, .int (z)), (0, .ref (g 60)), (1, .int (w))]) dd_Mo_sweep_215 (Nat.le_of_ble_eq_true rfl) rfl ?_
            refine jj_iinc 2 (lv' := [(5, .int (nI (k + 1))), (4, .int (0)), (6, .int _), (3, .int (a)), (2, .int (z)), (0, .ref (g 60)), (1, .int (w))]) dd_Mo_sweep_217 rfl (nI_1 k) (Nat.le_of_ble_eq_true rfl) rfl ?_
            refine jj_goto (tgt := 166) dd_Mo_sweep_220 (by decide) ?_
            refine jj_sub [0, 1, 3, 4, 5, 6] rfl ?_
            unfold sw_go at hQ
            rw [if_neg h174, if_pos h187, hF1, if_neg h207] at hQ
            exact ih _ _ _ _ F1 _ (by omega) r1 r2 hS hQ
          · skip
            refine jj_iconst (v := 1) dd_Mo_sweep_210 rfl ?_
            refine jj_goto (tgt := 215) dd_Mo_sweep_211 (by decide) ?_
            refine jj_istore (lv' := [(4, .int (1)), (6, .int _), (5, .int (nI (k))), (3, .int (a)), (2, .int (z)), (0, .ref (g 60)), (1, .int (w))]) dd_Mo_sweep_215 (Nat.le_of_ble_eq_true rfl) rfl ?_
            refine jj_iinc 2 (lv' := [(5, .int (nI (k + 1))), (4, .int (1)), (6, .int _), (3, .int (a)), (2, .int (z)), (0, .ref (g 60)), (1, .int (w))]) dd_Mo_sweep_217 rfl (nI_1 k) (Nat.le_of_ble_eq_true rfl) rfl ?_
            refine jj_goto (tgt := 166) dd_Mo_sweep_220 (by decide) ?_
            refine jj_sub [0, 1, 3, 4, 5, 6] rfl ?_
            unfold sw_go at hQ
            rw [if_neg h174, if_pos h187, hF1, if_pos h207] at hQ
            exact ih _ _ _ _ F1 _ (by omega) r1 r2 hS hQ
        · skip
          refine jj_aload_n 5 dd_Mo_sweep_190 rfl ?_
          refine jj_iload 1 dd_Mo_sweep_191 rfl ?_
          refine jj_iload_n 6 dd_Mo_sweep_193 rfl ?_
          refine jj_callV (ci := 7) [_, _] [] 0 0 dd_Mo_sweep_194 cs_Mo_180 ci_Mo_180 (hS.1.1 60 _ rfl) ⟨by decide, rfl⟩ rfl (Nat.le_of_ble_eq_true rfl) ⟨(Nat.le_of_ble_eq_true rfl), (Nat.le_of_ble_eq_true rfl)⟩ ⟨(Nat.le_of_ble_eq_true rfl), (Nat.le_of_ble_eq_true rfl)⟩ rfl (cs_use (cs_Mo_sweepTablet (S := (F1, S.2)) (t := k) (by omega) r1 r2 (fun M hS => ?_)) hS)
          obtain ⟨F2, hF2⟩ : ∃ F2, st_F F1 k w = F2 := ⟨_, rfl⟩
          replace hS : rp_ g M (F2, S.2) := by rw [← hF2]; exact hS
          have r3 : rec_ F2 ≤ 1540 := by rw [← hF2, st_rec]; exact r1
          have r4 : F2 60 11 = nI (rec_ F2) := by rw [← hF2, st_rec, st_oth _ _ _ _ _ (by omega) (by omega)]; exact r2
          refine jj_iinc 3 (lv' := [(3, .int (a + 1)), (6, .int _), (5, .int (nI (k))), (4, .int (b)), (2, .int (z)), (0, .ref (g 60)), (1, .int (w))]) dd_Mo_sweep_197 rfl rfl (Nat.le_of_ble_eq_true rfl) rfl ?_
          refine jj_aload_n 5 dd_Mo_sweep_200 rfl ?_
          refine jj_rS (n := 77) hS dd_Mo_sweep_201 ff_Mo_47 rfl (fun _ => rfl) rfl ?_
          refine jj_iload 2 dd_Mo_sweep_204 rfl ?_
          refine jj_zS hS dd_Mo_sweep_206 rfl (vp_in_nI (n := k) (by omega) (by decide)) (k) (nI_clamp (n := k) (by omega)) ?_
          refine jj_if_ne (tgt := 214) dd_Mo_sweep_207 (by decide) (fun h207 => ?_) (fun h207 => ?_)
          · skip
            refine jj_iconst (v := 0) dd_Mo_sweep_214 rfl ?_
            refine jj_istore (lv' := [(4, .int (0)), (3, .int (a + 1)), (6, .int _), (5, .int (nI (k))), (2, .int (z)), (0, .ref (g 60)), (1, .int (w))]) dd_Mo_sweep_215 (Nat.le_of_ble_eq_true rfl) rfl ?_
            refine jj_iinc 3 (lv' := [(5, .int (nI (k + 1))), (4, .int (0)), (3, .int (a + 1)), (6, .int _), (2, .int (z)), (0, .ref (g 60)), (1, .int (w))]) dd_Mo_sweep_217 rfl (nI_1 k) (Nat.le_of_ble_eq_true rfl) rfl ?_
            refine jj_goto (tgt := 166) dd_Mo_sweep_220 (by decide) ?_
            refine jj_sub [0, 1, 2, 4, 5, 6] rfl ?_
            unfold sw_go at hQ
            rw [if_neg h174, if_neg h187, hF1, hF2, if_neg h207] at hQ
            exact ih _ _ _ _ F2 _ (by omega) r3 r4 hS hQ
          · skip
            refine jj_iconst (v := 1) dd_Mo_sweep_210 rfl ?_
            refine jj_goto (tgt := 215) dd_Mo_sweep_211 (by decide) ?_
            refine jj_istore (lv' := [(4, .int (1)), (3, .int (a + 1)), (6, .int _), (5, .int (nI (k))), (2, .int (z)), (0, .ref (g 60)), (1, .int (w))]) dd_Mo_sweep_215 (Nat.le_of_ble_eq_true rfl) rfl ?_
            refine jj_iinc 3 (lv' := [(5, .int (nI (k + 1))), (4, .int (1)), (3, .int (a + 1)), (6, .int _), (2, .int (z)), (0, .ref (g 60)), (1, .int (w))]) dd_Mo_sweep_217 rfl (nI_1 k) (Nat.le_of_ble_eq_true rfl) rfl ?_
            refine jj_goto (tgt := 166) dd_Mo_sweep_220 (by decide) ?_
            refine jj_sub [0, 1, 2, 4, 5, 6] rfl ?_
            unfold sw_go at hQ
            rw [if_neg h174, if_neg h187, hF1, hF2, if_pos h207] at hQ
            exact ih _ _ _ _ F2 _ (by omega) r3 r4 hS hQ
set_option maxRecDepth 20000 in
theorem sw_loop3 {l : Launch} {g : Nat → Nat} {S : ss_} {Q : Option Value → ss_ → Prop} {w : Int32} {G : mm_G} {A : Nat → Prop} {F : Nat → Nat → Int32} {M : mm_M} (hr2 : rec_ F ≤ 1540) (hr : F 60 11 = nI (rec_ F)) (hS : rp_ g M (F, S.2)) {P : Int32 → Prop} (hP : ∀ z, P z → jj_ l yy_Mo_sweep bb_Mo_sweep 7 (some .int) G (mm_R 2 0 0) A (mm_ret (qs_ g Q)) 0 0 152 [(3, .int (nI (4))), (2, .int (z)), (0, .ref (g 60)), (1, .int (w))] [] M) : ∀ (n k : Nat) (z : Int32), k + n = 4 → P (m3_go F w n k z) → jj_ l yy_Mo_sweep bb_Mo_sweep 7 (some .int) G (mm_R 2 0 0) A (mm_ret (qs_ g Q)) 0 0 111 [(3, .int (nI (k))), (2, .int (z)), (0, .ref (g 60)), (1, .int (w))] [] M := by
  intro n
  induction n with
  | zero =>
    intro k z hk hQ
    have hk : k = 4 := by omega
    subst hk
    refine jj_iload_n 0 dd_Mo_sweep_111 rfl ?_
    refine jj_iconst (v := 4) dd_Mo_sweep_112 rfl ?_
    refine jj_icmp_ge (tgt := 152) dd_Mo_sweep_113 (by decide) (fun h113 => ?_) (fun h113 => ?_)
    · skip
      exact hP _ hQ
    · exact absurd (mm_rfl _) h113
  | succ n ih =>
    intro k z hk hQ
    refine jj_iload_n 0 dd_Mo_sweep_111 rfl ?_
    refine jj_iconst (v := 4) dd_Mo_sweep_112 rfl ?_
    refine jj_icmp_ge (tgt := 152) dd_Mo_sweep_113 (by decide) (fun h113 => ?_) (fun h113 => ?_)
    · exact absurd h113 (nI_ge (b := 4) (by omega) (by decide))
    · skip
      refine jj_iload_n 1 dd_Mo_sweep_116 rfl ?_
      refine jj_if_eq (tgt := 144) dd_Mo_sweep_117 (by decide) (fun h117 => ?_) (fun h117 => ?_)
      · skip
        refine jj_iconst (v := 0) dd_Mo_sweep_144 rfl ?_
        refine jj_istore_n (lv' := [(2, .int (0)), (3, .int (nI (k))), (0, .ref (g 60)), (1, .int (w))]) dd_Mo_sweep_145 (Nat.le_of_ble_eq_true rfl) rfl ?_
        refine jj_iinc 1 (lv' := [(3, .int (nI (k + 1))), (2, .int (0)), (0, .ref (g 60)), (1, .int (w))]) dd_Mo_sweep_146 rfl (nI_1 k) (Nat.le_of_ble_eq_true rfl) rfl ?_
        refine jj_goto (tgt := 111) dd_Mo_sweep_149 (by decide) ?_
        unfold m3_go at hQ
        rw [if_pos h117] at hQ
        exact ih (k + 1) 0 (by omega) hQ
      · skip
        refine jj_aload_n 2 dd_Mo_sweep_120 rfl ?_
        refine jj_rS (n := 83) hS dd_Mo_sweep_121 ff_Mo_66 rfl (fun _ => rfl) rfl ?_
        refine jj_iload_n 0 dd_Mo_sweep_124 rfl ?_
        refine jj_aS hS dd_Mo_sweep_125 rfl (vp_in_nI (n := k) (by omega) (by decide)) (k) (nI_clamp (n := k) (by omega)) ?_
        refine jj_iconst (v := 2) dd_Mo_sweep_126 rfl ?_
        refine jj_icmp_ne (tgt := 140) dd_Mo_sweep_127 (by decide) (fun h127 => ?_) (fun h127 => ?_)
        · skip
          refine jj_iconst (v := 1) dd_Mo_sweep_140 rfl ?_
          refine jj_goto (tgt := 145) dd_Mo_sweep_141 (by decide) ?_
          refine jj_istore_n (lv' := [(2, .int (1)), (3, .int (nI (k))), (0, .ref (g 60)), (1, .int (w))]) dd_Mo_sweep_145 (Nat.le_of_ble_eq_true rfl) rfl ?_
          refine jj_iinc 1 (lv' := [(3, .int (nI (k + 1))), (2, .int (1)), (0, .ref (g 60)), (1, .int (w))]) dd_Mo_sweep_146 rfl (nI_1 k) (Nat.le_of_ble_eq_true rfl) rfl ?_
          refine jj_goto (tgt := 111) dd_Mo_sweep_149 (by decide) ?_
          unfold m3_go at hQ
          rw [if_neg h117, if_neg h127] at hQ
          exact ih (k + 1) 1 (by omega) hQ
        · skip
          refine jj_aload_n 2 dd_Mo_sweep_130 rfl ?_
          refine jj_rS (n := 84) hS dd_Mo_sweep_131 ff_Mo_69 rfl (fun _ => rfl) rfl ?_
          refine jj_iload_n 0 dd_Mo_sweep_134 rfl ?_
          refine jj_aS hS dd_Mo_sweep_135 rfl (vp_in_nI (n := k) (by omega) (by decide)) (k) (nI_clamp (n := k) (by omega)) ?_
          refine jj_iload_n 3 dd_Mo_sweep_136 rfl ?_
          refine jj_icmp_lt (tgt := 144) dd_Mo_sweep_137 (by decide) (fun h137 => ?_) (fun h137 => ?_)
          · skip
            refine jj_iconst (v := 0) dd_Mo_sweep_144 rfl ?_
            refine jj_istore_n (lv' := [(2, .int (0)), (3, .int (nI (k))), (0, .ref (g 60)), (1, .int (w))]) dd_Mo_sweep_145 (Nat.le_of_ble_eq_true rfl) rfl ?_
            refine jj_iinc 1 (lv' := [(3, .int (nI (k + 1))), (2, .int (0)), (0, .ref (g 60)), (1, .int (w))]) dd_Mo_sweep_146 rfl (nI_1 k) (Nat.le_of_ble_eq_true rfl) rfl ?_
            refine jj_goto (tgt := 111) dd_Mo_sweep_149 (by decide) ?_
            unfold m3_go at hQ
            rw [if_neg h117, if_pos h127, if_pos h137] at hQ
            exact ih (k + 1) 0 (by omega) hQ
          · skip
            refine jj_iconst (v := 1) dd_Mo_sweep_140 rfl ?_
            refine jj_goto (tgt := 145) dd_Mo_sweep_141 (by decide) ?_
            refine jj_istore_n (lv' := [(2, .int (1)), (3, .int (nI (k))), (0, .ref (g 60)), (1, .int (w))]) dd_Mo_sweep_145 (Nat.le_of_ble_eq_true rfl) rfl ?_
            refine jj_iinc 1 (lv' := [(3, .int (nI (k + 1))), (2, .int (1)), (0, .ref (g 60)), (1, .int (w))]) dd_Mo_sweep_146 rfl (nI_1 k) (Nat.le_of_ble_eq_true rfl) rfl ?_
            refine jj_goto (tgt := 111) dd_Mo_sweep_149 (by decide) ?_
            unfold m3_go at hQ
            rw [if_neg h117, if_pos h127, if_neg h137] at hQ
            exact ih (k + 1) 1 (by omega) hQ
set_option maxRecDepth 20000 in
theorem sw_loop2 {l : Launch} {g : Nat → Nat} {S : ss_} {Q : Option Value → ss_ → Prop} {w : Int32} {G : mm_G} {A : Nat → Prop} {F : Nat → Nat → Int32} {M : mm_M} (hr2 : rec_ F ≤ 1540) (hr : F 60 11 = nI (rec_ F)) (hS : rp_ g M (F, S.2)) {P : Int32 → Prop} (hP : ∀ z, P z → jj_ l yy_Mo_sweep bb_Mo_sweep 7 (some .int) G (mm_R 2 0 0) A (mm_ret (qs_ g Q)) 0 0 111 [(3, .int (0)), (2, .int (z)), (0, .ref (g 60)), (1, .int (w))] [] M) : ∀ (n k : Nat) (z : Int32), k + n = 12 → P (m2_go F w n k z) → jj_ l yy_Mo_sweep bb_Mo_sweep 7 (some .int) G (mm_R 2 0 0) A (mm_ret (qs_ g Q)) 0 0 68 [(3, .int (nI (k))), (2, .int (z)), (0, .ref (g 60)), (1, .int (w))] [] M := by
  intro n
  induction n with
  | zero =>
    intro k z hk hQ
    have hk : k = 12 := by omega
    subst hk
    refine jj_iload_n 0 dd_Mo_sweep_68 rfl ?_
    refine jj_bipush (v := 12) dd_Mo_sweep_69 rfl ?_
    refine jj_icmp_ge (tgt := 109) dd_Mo_sweep_71 (by decide) (fun h71 => ?_) (fun h71 => ?_)
    · skip
      refine jj_iconst (v := 0) dd_Mo_sweep_109 rfl ?_
      refine jj_istore_n (lv' := [(3, .int (0)), (2, .int (z)), (0, .ref (g 60)), (1, .int (w))]) dd_Mo_sweep_110 (Nat.le_of_ble_eq_true rfl) rfl ?_
      exact hP _ hQ
    · exact absurd (mm_rfl _) h71
  | succ n ih =>
    intro k z hk hQ
    refine jj_iload_n 0 dd_Mo_sweep_68 rfl ?_
    refine jj_bipush (v := 12) dd_Mo_sweep_69 rfl ?_
    refine jj_icmp_ge (tgt := 109) dd_Mo_sweep_71 (by decide) (fun h71 => ?_) (fun h71 => ?_)
    · exact absurd h71 (nI_ge (b := 12) (by omega) (by decide))
    · skip
      refine jj_iload_n 1 dd_Mo_sweep_74 rfl ?_
      refine jj_if_eq (tgt := 101) dd_Mo_sweep_75 (by decide) (fun h75 => ?_) (fun h75 => ?_)
      · skip
        refine jj_iconst (v := 0) dd_Mo_sweep_101 rfl ?_
        refine jj_istore_n (lv' := [(2, .int (0)), (3, .int (nI (k))), (0, .ref (g 60)), (1, .int (w))]) dd_Mo_sweep_102 (Nat.le_of_ble_eq_true rfl) rfl ?_
        refine jj_iinc 1 (lv' := [(3, .int (nI (k + 1))), (2, .int (0)), (0, .ref (g 60)), (1, .int (w))]) dd_Mo_sweep_103 rfl (nI_1 k) (Nat.le_of_ble_eq_true rfl) rfl ?_
        refine jj_goto (tgt := 68) dd_Mo_sweep_106 (by decide) ?_
        unfold m2_go at hQ
        rw [if_pos h75] at hQ
        exact ih (k + 1) 0 (by omega) hQ
      · skip
        refine jj_aload_n 2 dd_Mo_sweep_78 rfl ?_
        refine jj_rS (n := 65) hS dd_Mo_sweep_79 ff_Mo_13 rfl (fun _ => rfl) rfl ?_
        refine jj_iload_n 0 dd_Mo_sweep_82 rfl ?_
        refine jj_aS hS dd_Mo_sweep_83 rfl (vp_in_nI (n := k) (by omega) (by decide)) (k) (nI_clamp (n := k) (by omega)) ?_
        refine jj_if_eq (tgt := 97) dd_Mo_sweep_84 (by decide) (fun h84 => ?_) (fun h84 => ?_)
        · skip
          refine jj_iconst (v := 1) dd_Mo_sweep_97 rfl ?_
          refine jj_goto (tgt := 102) dd_Mo_sweep_98 (by decide) ?_
          refine jj_istore_n (lv' := [(2, .int (1)), (3, .int (nI (k))), (0, .ref (g 60)), (1, .int (w))]) dd_Mo_sweep_102 (Nat.le_of_ble_eq_true rfl) rfl ?_
          refine jj_iinc 1 (lv' := [(3, .int (nI (k + 1))), (2, .int (1)), (0, .ref (g 60)), (1, .int (w))]) dd_Mo_sweep_103 rfl (nI_1 k) (Nat.le_of_ble_eq_true rfl) rfl ?_
          refine jj_goto (tgt := 68) dd_Mo_sweep_106 (by decide) ?_
          unfold m2_go at hQ
          rw [if_neg h75, if_pos h84] at hQ
          exact ih (k + 1) 1 (by omega) hQ
        · skip
          refine jj_aload_n 2 dd_Mo_sweep_87 rfl ?_
          refine jj_rS (n := 65) hS dd_Mo_sweep_88 ff_Mo_13 rfl (fun _ => rfl) rfl ?_
          refine jj_iload_n 0 dd_Mo_sweep_91 rfl ?_
          refine jj_aS hS dd_Mo_sweep_92 rfl (vp_in_nI (n := k) (by omega) (by decide)) (k) (nI_clamp (n := k) (by omega)) ?_
          refine jj_iload_n 3 dd_Mo_sweep_93 rfl ?_
          refine jj_icmp_lt (tgt := 101) dd_Mo_sweep_94 (by decide) (fun h94 => ?_) (fun h94 => ?_)
          · skip
            refine jj_iconst (v := 0) dd_Mo_sweep_101 rfl ?_
            refine jj_istore_n (lv' := [(2, .int (0)), (3, .int (nI (k))), (0, .ref (g 60)), (1, .int (w))]) dd_Mo_sweep_102 (Nat.le_of_ble_eq_true rfl) rfl ?_
            refine jj_iinc 1 (lv' := [(3, .int (nI (k + 1))), (2, .int (0)), (0, .ref (g 60)), (1, .int (w))]) dd_Mo_sweep_103 rfl (nI_1 k) (Nat.le_of_ble_eq_true rfl) rfl ?_
            refine jj_goto (tgt := 68) dd_Mo_sweep_106 (by decide) ?_
            unfold m2_go at hQ
            rw [if_neg h75, if_neg h84, if_pos h94] at hQ
            exact ih (k + 1) 0 (by omega) hQ
          · skip
            refine jj_iconst (v := 1) dd_Mo_sweep_97 rfl ?_
            refine jj_goto (tgt := 102) dd_Mo_sweep_98 (by decide) ?_
            refine jj_istore_n (lv' := [(2, .int (1)), (3, .int (nI (k))), (0, .ref (g 60)), (1, .int (w))]) dd_Mo_sweep_102 (Nat.le_of_ble_eq_true rfl) rfl ?_
            refine jj_iinc 1 (lv' := [(3, .int (nI (k + 1))), (2, .int (1)), (0, .ref (g 60)), (1, .int (w))]) dd_Mo_sweep_103 rfl (nI_1 k) (Nat.le_of_ble_eq_true rfl) rfl ?_
            refine jj_goto (tgt := 68) dd_Mo_sweep_106 (by decide) ?_
            unfold m2_go at hQ
            rw [if_neg h75, if_neg h84, if_neg h94] at hQ
            exact ih (k + 1) 1 (by omega) hQ
set_option maxRecDepth 20000 in
theorem sw_loop1 {l : Launch} {g : Nat → Nat} {S : ss_} {Q : Option Value → ss_ → Prop} {w : Int32} {G : mm_G} {A : Nat → Prop} {F : Nat → Nat → Int32} {M : mm_M} (hr2 : rec_ F ≤ 1540) (hr : F 60 11 = nI (rec_ F)) (hS : rp_ g M (F, S.2)) {P : Int32 → Prop} (hP : ∀ z, P z → jj_ l yy_Mo_sweep bb_Mo_sweep 7 (some .int) G (mm_R 2 0 0) A (mm_ret (qs_ g Q)) 0 0 68 [(3, .int (0)), (2, .int (z)), (0, .ref (g 60)), (1, .int (w))] [] M) : ∀ (n k : Nat) (z : Int32), k + n = 3 → P (m1_go F w n k z) → jj_ l yy_Mo_sweep bb_Mo_sweep 7 (some .int) G (mm_R 2 0 0) A (mm_ret (qs_ g Q)) 0 0 26 [(3, .int (nI (k))), (2, .int (z)), (0, .ref (g 60)), (1, .int (w))] [] M := by
  intro n
  induction n with
  | zero =>
    intro k z hk hQ
    have hk : k = 3 := by omega
    subst hk
    refine jj_iload_n 0 dd_Mo_sweep_26 rfl ?_
    refine jj_iconst (v := 3) dd_Mo_sweep_27 rfl ?_
    refine jj_icmp_ge (tgt := 66) dd_Mo_sweep_28 (by decide) (fun h28 => ?_) (fun h28 => ?_)
    · skip
      refine jj_iconst (v := 0) dd_Mo_sweep_66 rfl ?_
      refine jj_istore_n (lv' := [(3, .int (0)), (2, .int (z)), (0, .ref (g 60)), (1, .int (w))]) dd_Mo_sweep_67 (Nat.le_of_ble_eq_true rfl) rfl ?_
      exact hP _ hQ
    · exact absurd (mm_rfl _) h28
  | succ n ih =>
    intro k z hk hQ
    refine jj_iload_n 0 dd_Mo_sweep_26 rfl ?_
    refine jj_iconst (v := 3) dd_Mo_sweep_27 rfl ?_
    refine jj_icmp_ge (tgt := 66) dd_Mo_sweep_28 (by decide) (fun h28 => ?_) (fun h28 => ?_)
    · exact absurd h28 (nI_ge (b := 3) (by omega) (by decide))
    · skip
      refine jj_iload_n 1 dd_Mo_sweep_31 rfl ?_
      refine jj_if_eq (tgt := 58) dd_Mo_sweep_32 (by decide) (fun h32 => ?_) (fun h32 => ?_)
      · skip
        refine jj_iconst (v := 0) dd_Mo_sweep_58 rfl ?_
        refine jj_istore_n (lv' := [(2, .int (0)), (3, .int (nI (k))), (0, .ref (g 60)), (1, .int (w))]) dd_Mo_sweep_59 (Nat.le_of_ble_eq_true rfl) rfl ?_
        refine jj_iinc 1 (lv' := [(3, .int (nI (k + 1))), (2, .int (0)), (0, .ref (g 60)), (1, .int (w))]) dd_Mo_sweep_60 rfl (nI_1 k) (Nat.le_of_ble_eq_true rfl) rfl ?_
        refine jj_goto (tgt := 26) dd_Mo_sweep_63 (by decide) ?_
        unfold m1_go at hQ
        rw [if_pos h32] at hQ
        exact ih (k + 1) 0 (by omega) hQ
      · skip
        refine jj_aload_n 2 dd_Mo_sweep_35 rfl ?_
        refine jj_rS (n := 77) hS dd_Mo_sweep_36 ff_Mo_47 rfl (fun _ => rfl) rfl ?_
        refine jj_iload_n 0 dd_Mo_sweep_39 rfl ?_
        refine jj_zS hS dd_Mo_sweep_40 rfl (vp_in_nI (n := k) (by omega) (by decide)) (k) (nI_clamp (n := k) (by omega)) ?_
        refine jj_if_ne (tgt := 58) dd_Mo_sweep_41 (by decide) (fun h41 => ?_) (fun h41 => ?_)
        · skip
          refine jj_iconst (v := 0) dd_Mo_sweep_58 rfl ?_
          refine jj_istore_n (lv' := [(2, .int (0)), (3, .int (nI (k))), (0, .ref (g 60)), (1, .int (w))]) dd_Mo_sweep_59 (Nat.le_of_ble_eq_true rfl) rfl ?_
          refine jj_iinc 1 (lv' := [(3, .int (nI (k + 1))), (2, .int (0)), (0, .ref (g 60)), (1, .int (w))]) dd_Mo_sweep_60 rfl (nI_1 k) (Nat.le_of_ble_eq_true rfl) rfl ?_
          refine jj_goto (tgt := 26) dd_Mo_sweep_63 (by decide) ?_
          unfold m1_go at hQ
          rw [if_neg h32, if_neg h41] at hQ
          exact ih (k + 1) 0 (by omega) hQ
        · skip
          refine jj_iload_n 3 dd_Mo_sweep_44 rfl ?_
          refine jj_aload_n 2 dd_Mo_sweep_45 rfl ?_
          refine jj_rS (n := 78) hS dd_Mo_sweep_46 ff_Mo_51 rfl (fun _ => rfl) rfl ?_
          refine jj_iload_n 0 dd_Mo_sweep_49 rfl ?_
          refine jj_aS hS dd_Mo_sweep_50 rfl (vp_in_nI (n := k) (by omega) (by decide)) (k) (nI_clamp (n := k) (by omega)) ?_
          refine jj_icmp_le (tgt := 58) dd_Mo_sweep_51 (by decide) (fun h51 => ?_) (fun h51 => ?_)
          · skip
            refine jj_iconst (v := 0) dd_Mo_sweep_58 rfl ?_
            refine jj_istore_n (lv' := [(2, .int (0)), (3, .int (nI (k))), (0, .ref (g 60)), (1, .int (w))]) dd_Mo_sweep_59 (Nat.le_of_ble_eq_true rfl) rfl ?_
            refine jj_iinc 1 (lv' := [(3, .int (nI (k + 1))), (2, .int (0)), (0, .ref (g 60)), (1, .int (w))]) dd_Mo_sweep_60 rfl (nI_1 k) (Nat.le_of_ble_eq_true rfl) rfl ?_
            refine jj_goto (tgt := 26) dd_Mo_sweep_63 (by decide) ?_
            unfold m1_go at hQ
            rw [if_neg h32, if_pos h41, if_pos h51] at hQ
            exact ih (k + 1) 0 (by omega) hQ
          · skip
            refine jj_iconst (v := 1) dd_Mo_sweep_54 rfl ?_
            refine jj_goto (tgt := 59) dd_Mo_sweep_55 (by decide) ?_
            refine jj_istore_n (lv' := [(2, .int (1)), (3, .int (nI (k))), (0, .ref (g 60)), (1, .int (w))]) dd_Mo_sweep_59 (Nat.le_of_ble_eq_true rfl) rfl ?_
            refine jj_iinc 1 (lv' := [(3, .int (nI (k + 1))), (2, .int (1)), (0, .ref (g 60)), (1, .int (w))]) dd_Mo_sweep_60 rfl (nI_1 k) (Nat.le_of_ble_eq_true rfl) rfl ?_
            refine jj_goto (tgt := 26) dd_Mo_sweep_63 (by decide) ?_
            unfold m1_go at hQ
            rw [if_neg h32, if_pos h41, if_neg h51] at hQ
            exact ih (k + 1) 1 (by omega) hQ
set_option maxRecDepth 20000 in
theorem sw_loop0 {l : Launch} {g : Nat → Nat} {S : ss_} {Q : Option Value → ss_ → Prop} {w : Int32} {G : mm_G} {A : Nat → Prop} {F : Nat → Nat → Int32} {M : mm_M} (hr2 : rec_ F ≤ 1540) (hr : F 60 11 = nI (rec_ F)) (hS : rp_ g M (F, S.2)) : ∀ (z : Int32), sw_ F w z (fun r F => Q (some (.int r)) (F, S.2)) → jj_ l yy_Mo_sweep bb_Mo_sweep 7 (some .int) G (mm_R 2 0 0) A (mm_ret (qs_ g Q)) 0 0 152 [(3, .int (nI (4))), (2, .int (z)), (0, .ref (g 60)), (1, .int (w))] [] M := by
  intro z hQ
  unfold sw_ at hQ
  refine jj_iload_n 1 dd_Mo_sweep_152 rfl ?_
  refine jj_if_ne (tgt := 158) dd_Mo_sweep_153 (by decide) (fun h153 => ?_) (fun h153 => ?_)
  · skip
    refine jj_iconst (v := 0) dd_Mo_sweep_158 rfl ?_
    refine jj_istore_n (lv' := [(3, .int (0)), (2, .int (z)), (0, .ref (g 60)), (1, .int (w))]) dd_Mo_sweep_159 (Nat.le_of_ble_eq_true rfl) rfl ?_
    refine jj_iconst (v := 1) dd_Mo_sweep_160 rfl ?_
    refine jj_istore (lv' := [(4, .int (1)), (3, .int (0)), (2, .int (z)), (0, .ref (g 60)), (1, .int (w))]) dd_Mo_sweep_161 (Nat.le_of_ble_eq_true rfl) rfl ?_
    refine jj_iconst (v := 0) dd_Mo_sweep_163 rfl ?_
    refine jj_istore (lv' := [(5, .int (0)), (4, .int (1)), (3, .int (0)), (2, .int (z)), (0, .ref (g 60)), (1, .int (w))]) dd_Mo_sweep_164 (Nat.le_of_ble_eq_true rfl) rfl ?_
    rw [if_neg h153] at hQ
    exact sw_loop4 3 0 _ _ _ _ _ (by omega) hr2 hr hS hQ
  · skip
    refine jj_iconst (v := (-1)) dd_Mo_sweep_156 rfl ?_
    refine jj_iret dd_Mo_sweep_157 rfl rfl ?_
    rw [if_pos h153] at hQ
    exact ⟨_, hS, hQ⟩
set_option linter.constructorNameAsVariable false in
set_option maxRecDepth 20000 in
theorem cs_Mo_sweep {l : Launch} {g : Nat → Nat} {S : ss_} {Q : Option Value → ss_ → Prop} {w : Int32} {F : Nat → Nat → Int32} (hF : uf_ S.1 60 1 0 = F) (hr2 : rec_ F ≤ 1540) (hr : F 60 11 = nI (rec_ F)) (hQ : sw_ F w (sw_m F w) (fun r F => Q (some (.int r)) (F, S.2))) : cs_ l yy_Mo_sweep bb_Mo_sweep 7 (some .int) 2 0 0 g [.ref (g 60), .int w] S Q := by
  intro M hS
  refine ct_of (by decide) (Nat.le_of_ble_eq_true rfl) (fun G A => ?_)
  refine jj_aload_n 0 dd_Mo_sweep_0 rfl ?_
  refine jj_iconst (v := 0) dd_Mo_sweep_1 rfl ?_
  refine jj_pS hS dd_Mo_sweep_2 ⟨ff_Mo_93, rfl⟩ rfl (fun _ => rfl) ⟨rfl, rfl⟩ (fun M hS => ?_)
  rw [hF] at hS
  refine jj_iload_n 1 dd_Mo_sweep_5 rfl ?_
  refine jj_iconst (v := 1) dd_Mo_sweep_6 rfl ?_
  refine jj_icmp_lt (tgt := 22) dd_Mo_sweep_7 (by decide) (fun h7 => ?_) (fun h7 => ?_)
  · skip
    refine jj_iconst (v := 0) dd_Mo_sweep_22 rfl ?_
    refine jj_istore_n (lv' := [(2, .int (0)), (0, .ref (g 60)), (1, .int (w))]) dd_Mo_sweep_23 (Nat.le_of_ble_eq_true rfl) rfl ?_
    refine jj_iconst (v := 0) dd_Mo_sweep_24 rfl ?_
    refine jj_istore_n (lv' := [(3, .int (0)), (2, .int (0)), (0, .ref (g 60)), (1, .int (w))]) dd_Mo_sweep_25 (Nat.le_of_ble_eq_true rfl) rfl ?_
    unfold sw_m m0_ at hQ
    rw [if_pos h7] at hQ
    obtain ⟨f2, hf2⟩ : ∃ f : Int32 → Int32, f = m2_go F w 12 0 := ⟨_, rfl⟩
    obtain ⟨f3, hf3⟩ : ∃ f : Int32 → Int32, f = m3_go F w 4 0 := ⟨_, rfl⟩
    rw [← hf2, ← hf3] at hQ
    refine sw_loop1 hr2 hr hS (P := fun z => sw_ F w (f3 (f2 z)) (fun r F => Q (some (.int r)) (F, S.2))) (fun z hz => ?_) 3 0 _ (by omega) hQ
    refine sw_loop2 hr2 hr hS (P := fun z => sw_ F w (f3 z) (fun r F => Q (some (.int r)) (F, S.2))) (fun z hz => ?_) 12 0 z (by omega) (by rw [← hf2]; exact hz)
    refine sw_loop3 hr2 hr hS (P := fun z => sw_ F w z (fun r F => Q (some (.int r)) (F, S.2))) (sw_loop0 hr2 hr hS) 4 0 z (by omega) (by rw [← hf3]; exact hz)
  · skip
    refine jj_iload_n 1 dd_Mo_sweep_10 rfl ?_
    refine jj_aload_n 0 dd_Mo_sweep_11 rfl ?_
    refine jj_gS hS dd_Mo_sweep_12 ff_Mo_7 rfl (fun _ => rfl) ?_
    refine jj_icmp_gt (tgt := 22) dd_Mo_sweep_15 (by decide) (fun h15 => ?_) (fun h15 => ?_)
    · skip
      refine jj_iconst (v := 0) dd_Mo_sweep_22 rfl ?_
      refine jj_istore_n (lv' := [(2, .int (0)), (0, .ref (g 60)), (1, .int (w))]) dd_Mo_sweep_23 (Nat.le_of_ble_eq_true rfl) rfl ?_
      refine jj_iconst (v := 0) dd_Mo_sweep_24 rfl ?_
      refine jj_istore_n (lv' := [(3, .int (0)), (2, .int (0)), (0, .ref (g 60)), (1, .int (w))]) dd_Mo_sweep_25 (Nat.le_of_ble_eq_true rfl) rfl ?_
      unfold sw_m m0_ at hQ
      rw [if_neg h7, if_pos h15] at hQ
      obtain ⟨f2, hf2⟩ : ∃ f : Int32 → Int32, f = m2_go F w 12 0 := ⟨_, rfl⟩
      obtain ⟨f3, hf3⟩ : ∃ f : Int32 → Int32, f = m3_go F w 4 0 := ⟨_, rfl⟩
      rw [← hf2, ← hf3] at hQ
      refine sw_loop1 hr2 hr hS (P := fun z => sw_ F w (f3 (f2 z)) (fun r F => Q (some (.int r)) (F, S.2))) (fun z hz => ?_) 3 0 _ (by omega) hQ
      refine sw_loop2 hr2 hr hS (P := fun z => sw_ F w (f3 z) (fun r F => Q (some (.int r)) (F, S.2))) (fun z hz => ?_) 12 0 z (by omega) (by rw [← hf2]; exact hz)
      refine sw_loop3 hr2 hr hS (P := fun z => sw_ F w z (fun r F => Q (some (.int r)) (F, S.2))) (sw_loop0 hr2 hr hS) 4 0 z (by omega) (by rw [← hf3]; exact hz)
    · skip
      refine jj_iconst (v := 1) dd_Mo_sweep_18 rfl ?_
      refine jj_goto (tgt := 23) dd_Mo_sweep_19 (by decide) ?_
      refine jj_istore_n (lv' := [(2, .int (1)), (0, .ref (g 60)), (1, .int (w))]) dd_Mo_sweep_23 (Nat.le_of_ble_eq_true rfl) rfl ?_
      refine jj_iconst (v := 0) dd_Mo_sweep_24 rfl ?_
      refine jj_istore_n (lv' := [(3, .int (0)), (2, .int (1)), (0, .ref (g 60)), (1, .int (w))]) dd_Mo_sweep_25 (Nat.le_of_ble_eq_true rfl) rfl ?_
      unfold sw_m m0_ at hQ
      rw [if_neg h7, if_neg h15] at hQ
      obtain ⟨f2, hf2⟩ : ∃ f : Int32 → Int32, f = m2_go F w 12 0 := ⟨_, rfl⟩
      obtain ⟨f3, hf3⟩ : ∃ f : Int32 → Int32, f = m3_go F w 4 0 := ⟨_, rfl⟩
      rw [← hf2, ← hf3] at hQ
      refine sw_loop1 hr2 hr hS (P := fun z => sw_ F w (f3 (f2 z)) (fun r F => Q (some (.int r)) (F, S.2))) (fun z hz => ?_) 3 0 _ (by omega) hQ
      refine sw_loop2 hr2 hr hS (P := fun z => sw_ F w (f3 z) (fun r F => Q (some (.int r)) (F, S.2))) (fun z hz => ?_) 12 0 z (by omega) (by rw [← hf2]; exact hz)
      refine sw_loop3 hr2 hr hS (P := fun z => sw_ F w z (fun r F => Q (some (.int r)) (F, S.2))) (sw_loop0 hr2 hr hS) 4 0 z (by omega) (by rw [← hf3]; exact hz)
end
