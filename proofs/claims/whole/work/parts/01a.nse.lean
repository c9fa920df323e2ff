/-! NoSuchElementException's constructor over a text calls its superclass by entry 13 of its pool (the others: by entry 7): its words, and below the walk of 'throw new NoSuchElementException("..")' -/
def nx_n : String := "java/util/NoSuchElementException"
def nx_r : String := "java/lang/RuntimeException"
def nx_six : ByteArray := ⟨#[0x2a, 0x2b, 0xb7, 0x00, 0x0d, 0xb1]⟩
theorem nx_six_0 : decode nx_six 0 = .ok (.aload_n 0, 1) := by decide +kernel
theorem nx_six_1 : decode nx_six 1 = .ok (.aload_n 1, 1) := by decide +kernel
theorem nx_six_2 : decode nx_six 2 = .ok (.invokespecial 13, 3) := by decide +kernel
theorem nx_six_5 : decode nx_six 5 = .ok (.return_, 1) := by decide +kernel
def nx_chain : List Cond := Bundle.passSAtoms nx_n nx_r 13 nx_six ++ Bundle.chainSAtoms nx_r ["java/lang/Exception"]
def nx_own (own : String) (ic : Nat) : List Cond :=
  Bundle.throwableAtoms ++ Bundle.throwableSAtoms ++ nx_chain ++
  [.methodLink own ic (Bundle.initS nx_n), .instantiable nx_n 6, .castable nx_n nx_n, .selects nx_n Bundle.tFill0 Bundle.tFill0, .selects nx_n Bundle.tFill Bundle.tFill,
   .lays nx_n Bundle.tN "cause" "Ljava/lang/Throwable;", .lays nx_n Bundle.tN "stackTrace" Bundle.steD, .lays nx_n Bundle.tN "suppressedExceptions" Bundle.listD, .lays nx_n Bundle.tN "detailMessage" "Ljava/lang/String;",
   .isRef (.static Bundle.tN "UNASSIGNED_STACK" Bundle.steD), .isRef (.static Bundle.tN "SUPPRESSED_SENTINEL" Bundle.listD),
   .fieldLink Bundle.tN 198 Bundle.tN "backtrace" "Ljava/lang/Object;", .lays Bundle.tN Bundle.tN "backtrace" "Ljava/lang/Object;", .lays nx_n Bundle.tN "backtrace" "Ljava/lang/Object;"]
def nx_atS (own : String) (ic : Nat) : List Cond := (nx_own own ic).filter vx_no
